theorem ft_76_0 : ft_m 76 0 = some (.aload_n 0, 1, 0, 0, 0, 0, 0) := by rfl
theorem ft_76_1 : ft_m 76 1 = some (.getfield 13, 4, 8, 2, 734, 0, 0) := by rfl
theorem ft_76_4 : ft_m 76 4 = some (.iload_n 1, 5, 1, 0, 0, 0, 0) := by rfl
theorem ft_76_5 : ft_m 76 5 = some (.iconst 1, 6, 0, 0, 0, 0, nI 1) := by rfl
theorem ft_76_6 : ft_m 76 6 = some (.bastore, 7, 0, 0, 0, 0, 0) := by rfl
theorem ft_76_7 : ft_m 76 7 = some (.aload_n 0, 8, 0, 0, 0, 0, 0) := by rfl
theorem ft_76_8 : ft_m 76 8 = some (.iconst (-1), 9, 0, 0, 0, 0, (-1)) := by rfl
theorem ft_76_9 : ft_m 76 9 = some (.putfield 113, 12, 8, 18, 750, 0, 0) := by rfl
theorem ft_76_12 : ft_m 76 12 = some (.aload_n 0, 13, 0, 0, 0, 0, 0) := by rfl
theorem ft_76_13 : ft_m 76 13 = some (.iload_n 1, 14, 1, 0, 0, 0, 0) := by rfl
theorem ft_76_14 : ft_m 76 14 = some (.sipush 1000, 17, 0, 0, 0, 0, nI 1000) := by rfl
theorem ft_76_17 : ft_m 76 17 = some (.invokevirtual 116, 20, 77, 0, 845, 0, 0) := by rfl
theorem ft_76_20 : ft_m 76 20 = some (.istore_n 2, 21, 2, 0, 0, 0, 0) := by rfl
theorem ft_76_21 : ft_m 76 21 = some (.iconst (-1), 22, 0, 0, 0, 0, (-1)) := by rfl
theorem ft_76_22 : ft_m 76 22 = some (.istore_n 3, 23, 3, 0, 0, 0, 0) := by rfl
theorem ft_76_23 : ft_m 76 23 = some (.iconst 2, 24, 0, 0, 0, 0, nI 2) := by rfl
theorem ft_76_24 : ft_m 76 24 = some (.istore 4, 26, 4, 0, 0, 0, 0) := by rfl
theorem ft_76_26 : ft_m 76 26 = some (.iload 4, 28, 4, 0, 0, 0, 0) := by rfl
theorem ft_76_28 : ft_m 76 28 = some (.aload_n 0, 29, 0, 0, 0, 0, 0) := by rfl
theorem ft_76_29 : ft_m 76 29 = some (.getfield 113, 32, 8, 18, 750, 0, 0) := by rfl
theorem ft_76_32 : ft_m 76 32 = some (.if_icmp .gt 34, 35, 66, 0, 0, 0, 0) := by rfl
theorem ft_76_35 : ft_m 76 35 = some (.iload_n 3, 36, 3, 0, 0, 0, 0) := by rfl
theorem ft_76_36 : ft_m 76 36 = some (.iconst (-1), 37, 0, 0, 0, 0, (-1)) := by rfl
theorem ft_76_37 : ft_m 76 37 = some (.if_icmp .ne 29, 40, 66, 0, 0, 0, 0) := by rfl
theorem ft_76_40 : ft_m 76 40 = some (.aload_n 0, 41, 0, 0, 0, 0, 0) := by rfl
theorem ft_76_41 : ft_m 76 41 = some (.iload 4, 43, 4, 0, 0, 0, 0) := by rfl
theorem ft_76_43 : ft_m 76 43 = some (.invokevirtual 120, 46, 81, 0, 861, 0, 0) := by rfl
theorem ft_76_46 : ft_m 76 46 = some (.ldc2_w 124, 49, 0, 0, 865, 2147483648, 0) := by rfl
theorem ft_76_49 : ft_m 76 49 = some (.lcmp, 50, 0, 0, 0, 0, 0) := by rfl
theorem ft_76_50 : ft_m 76 50 = some (.ifCond .gt 8, 53, 58, 0, 0, 0, 0) := by rfl
theorem ft_76_53 : ft_m 76 53 = some (.iload 4, 55, 4, 0, 0, 0, 0) := by rfl
theorem ft_76_55 : ft_m 76 55 = some (.goto 4, 58, 59, 0, 0, 0, 0) := by rfl
theorem ft_76_58 : ft_m 76 58 = some (.iconst (-1), 59, 0, 0, 0, 0, (-1)) := by rfl
theorem ft_76_59 : ft_m 76 59 = some (.istore_n 3, 60, 3, 0, 0, 0, 0) := by rfl
theorem ft_76_60 : ft_m 76 60 = some (.iinc 4 1, 63, 4, 0, 0, 0, nI 1) := by rfl
theorem ft_76_63 : ft_m 76 63 = some (.goto (-37), 66, 26, 0, 0, 0, 0) := by rfl
theorem ft_76_66 : ft_m 76 66 = some (.iload_n 3, 67, 3, 0, 0, 0, 0) := by rfl
theorem ft_76_67 : ft_m 76 67 = some (.iconst (-1), 68, 0, 0, 0, 0, (-1)) := by rfl
theorem ft_76_68 : ft_m 76 68 = some (.if_icmp .eq 15, 71, 83, 0, 0, 0, 0) := by rfl
theorem ft_76_71 : ft_m 76 71 = some (.aload_n 0, 72, 0, 0, 0, 0, 0) := by rfl
theorem ft_76_72 : ft_m 76 72 = some (.iload_n 3, 73, 3, 0, 0, 0, 0) := by rfl
theorem ft_76_73 : ft_m 76 73 = some (.invokevirtual 126, 76, 82, 0, 866, 0, 0) := by rfl
theorem ft_76_76 : ft_m 76 76 = some (.ldc2_w 108, 79, 0, 0, 857, 70368744177664, 0) := by rfl
theorem ft_76_79 : ft_m 76 79 = some (.lcmp, 80, 0, 0, 0, 0, 0) := by rfl
theorem ft_76_80 : ft_m 76 80 = some (.ifCond .le 4, 83, 84, 0, 0, 0, 0) := by rfl
theorem ft_76_83 : ft_m 76 83 = some (.return_, 84, 0, 0, 0, 0, 0) := by rfl
theorem ft_76_84 : ft_m 76 84 = some (.ldc2_w 100, 87, 0, 0, 849, 4294967296, 0) := by rfl
theorem ft_76_87 : ft_m 76 87 = some (.aload_n 0, 88, 0, 0, 0, 0, 0) := by rfl
theorem ft_76_88 : ft_m 76 88 = some (.iload_n 3, 89, 3, 0, 0, 0, 0) := by rfl
theorem ft_76_89 : ft_m 76 89 = some (.invokevirtual 120, 92, 81, 0, 861, 0, 0) := by rfl
theorem ft_76_92 : ft_m 76 92 = some (.lsub, 93, 0, 0, 0, 0, 0) := by rfl
theorem ft_76_93 : ft_m 76 93 = some (.ldc2_w 129, 96, 0, 0, 870, 65536, 0) := by rfl
theorem ft_76_96 : ft_m 76 96 = some (.ldiv, 97, 0, 0, 0, 0, 0) := by rfl
theorem ft_76_97 : ft_m 76 97 = some (.lstore 4, 99, 4, 0, 0, 0, 0) := by rfl
theorem ft_76_99 : ft_m 76 99 = some (.aload_n 0, 100, 0, 0, 0, 0, 0) := by rfl
theorem ft_76_100 : ft_m 76 100 = some (.iload_n 3, 101, 3, 0, 0, 0, 0) := by rfl
theorem ft_76_101 : ft_m 76 101 = some (.invokevirtual 126, 104, 82, 0, 866, 0, 0) := by rfl
theorem ft_76_104 : ft_m 76 104 = some (.ldc2_w 129, 107, 0, 0, 870, 65536, 0) := by rfl
theorem ft_76_107 : ft_m 76 107 = some (.lmul, 108, 0, 0, 0, 0, 0) := by rfl
theorem ft_76_108 : ft_m 76 108 = some (.lload 4, 110, 4, 0, 0, 0, 0) := by rfl
theorem ft_76_110 : ft_m 76 110 = some (.invokestatic 110, 113, 80, 0, 858, 0, 0) := by rfl
theorem ft_76_113 : ft_m 76 113 = some (.lstore 6, 115, 6, 0, 0, 0, 0) := by rfl
theorem ft_76_115 : ft_m 76 115 = some (.lload 6, 117, 6, 0, 0, 0, 0) := by rfl
theorem ft_76_117 : ft_m 76 117 = some (.ldc2_w 131, 120, 0, 0, 871, 17592186044416, 0) := by rfl
theorem ft_76_120 : ft_m 76 120 = some (.lcmp, 121, 0, 0, 0, 0, 0) := by rfl
theorem ft_76_121 : ft_m 76 121 = some (.ifCond .le 4, 124, 125, 0, 0, 0, 0) := by rfl
theorem ft_76_124 : ft_m 76 124 = some (.return_, 125, 0, 0, 0, 0, 0) := by rfl
theorem ft_76_125 : ft_m 76 125 = some (.aload_n 0, 126, 0, 0, 0, 0, 0) := by rfl
theorem ft_76_126 : ft_m 76 126 = some (.getfield 13, 129, 8, 2, 734, 0, 0) := by rfl
theorem ft_76_129 : ft_m 76 129 = some (.iload_n 1, 130, 1, 0, 0, 0, 0) := by rfl
theorem ft_76_130 : ft_m 76 130 = some (.iconst 0, 131, 0, 0, 0, 0, nI 0) := by rfl
theorem ft_76_131 : ft_m 76 131 = some (.bastore, 132, 0, 0, 0, 0, 0) := by rfl
theorem ft_76_132 : ft_m 76 132 = some (.aload_n 0, 133, 0, 0, 0, 0, 0) := by rfl
theorem ft_76_133 : ft_m 76 133 = some (.getfield 17, 136, 8, 3, 735, 0, 0) := by rfl
theorem ft_76_136 : ft_m 76 136 = some (.iconst 5, 137, 0, 0, 0, 0, nI 5) := by rfl
theorem ft_76_137 : ft_m 76 137 = some (.iload_n 1, 138, 1, 0, 0, 0, 0) := by rfl
theorem ft_76_138 : ft_m 76 138 = some (.imul, 139, 0, 0, 0, 0, 0) := by rfl
theorem ft_76_139 : ft_m 76 139 = some (.iload_n 3, 140, 3, 0, 0, 0, 0) := by rfl
theorem ft_76_140 : ft_m 76 140 = some (.i2l, 141, 0, 0, 0, 0, 0) := by rfl
theorem ft_76_141 : ft_m 76 141 = some (.lastore, 142, 0, 0, 0, 0, 0) := by rfl
theorem ft_76_142 : ft_m 76 142 = some (.aload_n 0, 143, 0, 0, 0, 0, 0) := by rfl
theorem ft_76_143 : ft_m 76 143 = some (.getfield 17, 146, 8, 3, 735, 0, 0) := by rfl
theorem ft_76_146 : ft_m 76 146 = some (.iconst 5, 147, 0, 0, 0, 0, nI 5) := by rfl
theorem ft_76_147 : ft_m 76 147 = some (.iload_n 1, 148, 1, 0, 0, 0, 0) := by rfl
theorem ft_76_148 : ft_m 76 148 = some (.imul, 149, 0, 0, 0, 0, 0) := by rfl
theorem ft_76_149 : ft_m 76 149 = some (.iconst 1, 150, 0, 0, 0, 0, nI 1) := by rfl
theorem ft_76_150 : ft_m 76 150 = some (.iadd, 151, 0, 0, 0, 0, 0) := by rfl
theorem ft_76_151 : ft_m 76 151 = some (.aload_n 0, 152, 0, 0, 0, 0, 0) := by rfl
theorem ft_76_152 : ft_m 76 152 = some (.iload_n 3, 153, 3, 0, 0, 0, 0) := by rfl
theorem ft_76_153 : ft_m 76 153 = some (.invokevirtual 126, 156, 82, 0, 866, 0, 0) := by rfl
theorem ft_76_156 : ft_m 76 156 = some (.lastore, 157, 0, 0, 0, 0, 0) := by rfl
theorem ft_76_157 : ft_m 76 157 = some (.aload_n 0, 158, 0, 0, 0, 0, 0) := by rfl
theorem ft_76_158 : ft_m 76 158 = some (.getfield 17, 161, 8, 3, 735, 0, 0) := by rfl
theorem ft_76_161 : ft_m 76 161 = some (.iconst 5, 162, 0, 0, 0, 0, nI 5) := by rfl
theorem ft_76_162 : ft_m 76 162 = some (.iload_n 1, 163, 1, 0, 0, 0, 0) := by rfl
theorem ft_76_163 : ft_m 76 163 = some (.imul, 164, 0, 0, 0, 0, 0) := by rfl
theorem ft_76_164 : ft_m 76 164 = some (.iconst 2, 165, 0, 0, 0, 0, nI 2) := by rfl
theorem ft_76_165 : ft_m 76 165 = some (.iadd, 166, 0, 0, 0, 0, 0) := by rfl
theorem ft_76_166 : ft_m 76 166 = some (.aload_n 0, 167, 0, 0, 0, 0, 0) := by rfl
theorem ft_76_167 : ft_m 76 167 = some (.iload_n 3, 168, 3, 0, 0, 0, 0) := by rfl
theorem ft_76_168 : ft_m 76 168 = some (.invokevirtual 120, 171, 81, 0, 861, 0, 0) := by rfl
theorem ft_76_171 : ft_m 76 171 = some (.lastore, 172, 0, 0, 0, 0, 0) := by rfl
theorem ft_76_172 : ft_m 76 172 = some (.aload_n 0, 173, 0, 0, 0, 0, 0) := by rfl
theorem ft_76_173 : ft_m 76 173 = some (.getfield 17, 176, 8, 3, 735, 0, 0) := by rfl
theorem ft_76_176 : ft_m 76 176 = some (.iconst 5, 177, 0, 0, 0, 0, nI 5) := by rfl
theorem ft_76_177 : ft_m 76 177 = some (.iload_n 1, 178, 1, 0, 0, 0, 0) := by rfl
theorem ft_76_178 : ft_m 76 178 = some (.imul, 179, 0, 0, 0, 0, 0) := by rfl
theorem ft_76_179 : ft_m 76 179 = some (.iconst 3, 180, 0, 0, 0, 0, nI 3) := by rfl
theorem ft_76_180 : ft_m 76 180 = some (.iadd, 181, 0, 0, 0, 0, 0) := by rfl
theorem ft_76_181 : ft_m 76 181 = some (.lload 6, 183, 6, 0, 0, 0, 0) := by rfl
theorem ft_76_183 : ft_m 76 183 = some (.lastore, 184, 0, 0, 0, 0, 0) := by rfl
theorem ft_76_184 : ft_m 76 184 = some (.aload_n 0, 185, 0, 0, 0, 0, 0) := by rfl
theorem ft_76_185 : ft_m 76 185 = some (.getfield 17, 188, 8, 3, 735, 0, 0) := by rfl
theorem ft_76_188 : ft_m 76 188 = some (.iconst 5, 189, 0, 0, 0, 0, nI 5) := by rfl
theorem ft_76_189 : ft_m 76 189 = some (.iload_n 1, 190, 1, 0, 0, 0, 0) := by rfl
theorem ft_76_190 : ft_m 76 190 = some (.imul, 191, 0, 0, 0, 0, 0) := by rfl
theorem ft_76_191 : ft_m 76 191 = some (.iconst 4, 192, 0, 0, 0, 0, nI 4) := by rfl
theorem ft_76_192 : ft_m 76 192 = some (.iadd, 193, 0, 0, 0, 0, 0) := by rfl
theorem ft_76_193 : ft_m 76 193 = some (.aload_n 0, 194, 0, 0, 0, 0, 0) := by rfl
theorem ft_76_194 : ft_m 76 194 = some (.iload_n 1, 195, 1, 0, 0, 0, 0) := by rfl
theorem ft_76_195 : ft_m 76 195 = some (.invokevirtual 133, 198, 83, 0, 872, 0, 0) := by rfl
theorem ft_76_198 : ft_m 76 198 = some (.lload 6, 200, 6, 0, 0, 0, 0) := by rfl
theorem ft_76_200 : ft_m 76 200 = some (.lmul, 201, 0, 0, 0, 0, 0) := by rfl
theorem ft_76_201 : ft_m 76 201 = some (.ldc2_w 102, 204, 0, 0, 850, 16384, 0) := by rfl
theorem ft_76_204 : ft_m 76 204 = some (.invokestatic 110, 207, 80, 0, 858, 0, 0) := by rfl
theorem ft_76_207 : ft_m 76 207 = some (.lastore, 208, 0, 0, 0, 0, 0) := by rfl
theorem ft_76_208 : ft_m 76 208 = some (.return_, 209, 0, 0, 0, 0, 0) := by rfl
theorem ft_77_0 : ft_m 77 0 = some (.aload_n 0, 1, 0, 0, 0, 0, 0) := by rfl
theorem ft_77_1 : ft_m 77 1 = some (.getfield 7, 4, 8, 1, 733, 0, 0) := by rfl
theorem ft_77_4 : ft_m 77 4 = some (.iconst 5, 5, 0, 0, 0, 0, nI 5) := by rfl
theorem ft_77_5 : ft_m 77 5 = some (.iload_n 1, 6, 1, 0, 0, 0, 0) := by rfl
theorem ft_77_6 : ft_m 77 6 = some (.imul, 7, 0, 0, 0, 0, 0) := by rfl
theorem ft_77_7 : ft_m 77 7 = some (.iconst 3, 8, 0, 0, 0, 0, nI 3) := by rfl
theorem ft_77_8 : ft_m 77 8 = some (.iadd, 9, 0, 0, 0, 0, 0) := by rfl
theorem ft_77_9 : ft_m 77 9 = some (.iaload, 10, 0, 0, 0, 0, 0) := by rfl
theorem ft_77_10 : ft_m 77 10 = some (.i2l, 11, 0, 0, 0, 0, 0) := by rfl
theorem ft_77_11 : ft_m 77 11 = some (.lstore_n 3, 12, 3, 0, 0, 0, 0) := by rfl
theorem ft_77_12 : ft_m 77 12 = some (.aload_n 0, 13, 0, 0, 0, 0, 0) := by rfl
theorem ft_77_13 : ft_m 77 13 = some (.getfield 7, 16, 8, 1, 733, 0, 0) := by rfl
theorem ft_77_16 : ft_m 77 16 = some (.iconst 5, 17, 0, 0, 0, 0, nI 5) := by rfl
theorem ft_77_17 : ft_m 77 17 = some (.iload_n 1, 18, 1, 0, 0, 0, 0) := by rfl
theorem ft_77_18 : ft_m 77 18 = some (.imul, 19, 0, 0, 0, 0, 0) := by rfl
theorem ft_77_19 : ft_m 77 19 = some (.iconst 4, 20, 0, 0, 0, 0, nI 4) := by rfl
theorem ft_77_20 : ft_m 77 20 = some (.iadd, 21, 0, 0, 0, 0, 0) := by rfl
theorem ft_77_21 : ft_m 77 21 = some (.iaload, 22, 0, 0, 0, 0, 0) := by rfl
theorem ft_77_22 : ft_m 77 22 = some (.i2l, 23, 0, 0, 0, 0, 0) := by rfl
theorem ft_77_23 : ft_m 77 23 = some (.lstore 5, 25, 5, 0, 0, 0, 0) := by rfl
theorem ft_77_25 : ft_m 77 25 = some (.lconst 0, 26, 0, 0, 0, 0, 0) := by rfl
theorem ft_77_26 : ft_m 77 26 = some (.lstore 7, 28, 7, 0, 0, 0, 0) := by rfl
theorem ft_77_28 : ft_m 77 28 = some (.iconst 0, 29, 0, 0, 0, 0, nI 0) := by rfl
theorem ft_77_29 : ft_m 77 29 = some (.istore 9, 31, 9, 0, 0, 0, 0) := by rfl
theorem ft_77_31 : ft_m 77 31 = some (.iload 9, 33, 9, 0, 0, 0, 0) := by rfl
theorem ft_77_33 : ft_m 77 33 = some (.iload_n 2, 34, 2, 0, 0, 0, 0) := by rfl
theorem ft_77_34 : ft_m 77 34 = some (.if_icmp .gt 200, 37, 234, 0, 0, 0, 0) := by rfl
theorem ft_77_37 : ft_m 77 37 = some (.iload 9, 39, 9, 0, 0, 0, 0) := by rfl
theorem ft_77_39 : ft_m 77 39 = some (.iconst 1, 40, 0, 0, 0, 0, nI 1) := by rfl
theorem ft_77_40 : ft_m 77 40 = some (.if_icmp .le 15, 43, 55, 0, 0, 0, 0) := by rfl
theorem ft_77_43 : ft_m 77 43 = some (.aload_n 0, 44, 0, 0, 0, 0, 0) := by rfl
theorem ft_77_44 : ft_m 77 44 = some (.getfield 36, 47, 8, 14, 746, 0, 0) := by rfl
theorem ft_77_47 : ft_m 77 47 = some (.iload 9, 49, 9, 0, 0, 0, 0) := by rfl
theorem ft_77_49 : ft_m 77 49 = some (.iconst 2, 50, 0, 0, 0, 0, nI 2) := by rfl
theorem ft_77_50 : ft_m 77 50 = some (.isub, 51, 0, 0, 0, 0, 0) := by rfl
theorem ft_77_51 : ft_m 77 51 = some (.laload, 52, 0, 0, 0, 0, 0) := by rfl
theorem ft_77_52 : ft_m 77 52 = some (.goto 4, 55, 56, 0, 0, 0, 0) := by rfl
theorem ft_77_55 : ft_m 77 55 = some (.lconst 0, 56, 0, 0, 0, 0, 0) := by rfl
theorem ft_77_56 : ft_m 77 56 = some (.lstore 10, 58, 10, 0, 0, 0, 0) := by rfl
theorem ft_77_58 : ft_m 77 58 = some (.aload_n 0, 59, 0, 0, 0, 0, 0) := by rfl
theorem ft_77_59 : ft_m 77 59 = some (.getfield 36, 62, 8, 14, 746, 0, 0) := by rfl
theorem ft_77_62 : ft_m 77 62 = some (.iload 9, 64, 9, 0, 0, 0, 0) := by rfl
theorem ft_77_64 : ft_m 77 64 = some (.iload 9, 66, 9, 0, 0, 0, 0) := by rfl
theorem ft_77_66 : ft_m 77 66 = some (.ifCond .ne 9, 69, 75, 0, 0, 0, 0) := by rfl
theorem ft_77_69 : ft_m 77 69 = some (.ldc2_w 100, 72, 0, 0, 849, 4294967296, 0) := by rfl
theorem ft_77_72 : ft_m 77 72 = some (.goto 27, 75, 99, 0, 0, 0, 0) := by rfl
theorem ft_77_75 : ft_m 77 75 = some (.lload_n 3, 76, 3, 0, 0, 0, 0) := by rfl
theorem ft_77_76 : ft_m 77 76 = some (.lneg, 77, 0, 0, 0, 0, 0) := by rfl
theorem ft_77_77 : ft_m 77 77 = some (.aload_n 0, 78, 0, 0, 0, 0, 0) := by rfl
theorem ft_77_78 : ft_m 77 78 = some (.getfield 36, 81, 8, 14, 746, 0, 0) := by rfl
theorem ft_77_81 : ft_m 77 81 = some (.iload 9, 83, 9, 0, 0, 0, 0) := by rfl
theorem ft_77_83 : ft_m 77 83 = some (.iconst 1, 84, 0, 0, 0, 0, nI 1) := by rfl
theorem ft_77_84 : ft_m 77 84 = some (.isub, 85, 0, 0, 0, 0, 0) := by rfl
theorem ft_77_85 : ft_m 77 85 = some (.laload, 86, 0, 0, 0, 0, 0) := by rfl
theorem ft_77_86 : ft_m 77 86 = some (.lmul, 87, 0, 0, 0, 0, 0) := by rfl
theorem ft_77_87 : ft_m 77 87 = some (.lload 5, 89, 5, 0, 0, 0, 0) := by rfl
theorem ft_77_89 : ft_m 77 89 = some (.lload 10, 91, 10, 0, 0, 0, 0) := by rfl
theorem ft_77_91 : ft_m 77 91 = some (.lmul, 92, 0, 0, 0, 0, 0) := by rfl
theorem ft_77_92 : ft_m 77 92 = some (.lsub, 93, 0, 0, 0, 0, 0) := by rfl
theorem ft_77_93 : ft_m 77 93 = some (.ldc2_w 102, 96, 0, 0, 850, 16384, 0) := by rfl
theorem ft_77_96 : ft_m 77 96 = some (.invokestatic 104, 99, 78, 0, 851, 0, 0) := by rfl
theorem ft_77_99 : ft_m 77 99 = some (.lastore, 100, 0, 0, 0, 0, 0) := by rfl
theorem ft_77_100 : ft_m 77 100 = some (.aload_n 0, 101, 0, 0, 0, 0, 0) := by rfl
theorem ft_77_101 : ft_m 77 101 = some (.getfield 39, 104, 8, 15, 747, 0, 0) := by rfl
theorem ft_77_104 : ft_m 77 104 = some (.iload 9, 106, 9, 0, 0, 0, 0) := by rfl
theorem ft_77_106 : ft_m 77 106 = some (.iload 9, 108, 9, 0, 0, 0, 0) := by rfl
theorem ft_77_108 : ft_m 77 108 = some (.ifCond .ne 7, 111, 115, 0, 0, 0, 0) := by rfl
theorem ft_77_111 : ft_m 77 111 = some (.lconst 0, 112, 0, 0, 0, 0, 0) := by rfl
theorem ft_77_112 : ft_m 77 112 = some (.goto 11, 115, 123, 0, 0, 0, 0) := by rfl
theorem ft_77_115 : ft_m 77 115 = some (.lconst 1, 116, 0, 0, 0, 1, 0) := by rfl
theorem ft_77_116 : ft_m 77 116 = some (.lload 7, 118, 7, 0, 0, 0, 0) := by rfl
theorem ft_77_118 : ft_m 77 118 = some (.ldc2_w 100, 121, 0, 0, 849, 4294967296, 0) := by rfl
theorem ft_77_121 : ft_m 77 121 = some (.ldiv, 122, 0, 0, 0, 0, 0) := by rfl
theorem ft_77_122 : ft_m 77 122 = some (.ladd, 123, 0, 0, 0, 0, 0) := by rfl
theorem ft_77_123 : ft_m 77 123 = some (.lastore, 124, 0, 0, 0, 0, 0) := by rfl
theorem ft_77_124 : ft_m 77 124 = some (.aload_n 0, 125, 0, 0, 0, 0, 0) := by rfl
theorem ft_77_125 : ft_m 77 125 = some (.getfield 42, 128, 8, 16, 748, 0, 0) := by rfl
theorem ft_77_128 : ft_m 77 128 = some (.iload 9, 130, 9, 0, 0, 0, 0) := by rfl
theorem ft_77_130 : ft_m 77 130 = some (.aload_n 0, 131, 0, 0, 0, 0, 0) := by rfl
theorem ft_77_131 : ft_m 77 131 = some (.getfield 36, 134, 8, 14, 746, 0, 0) := by rfl
theorem ft_77_134 : ft_m 77 134 = some (.iload 9, 136, 9, 0, 0, 0, 0) := by rfl
theorem ft_77_136 : ft_m 77 136 = some (.laload, 137, 0, 0, 0, 0, 0) := by rfl
theorem ft_77_137 : ft_m 77 137 = some (.invokestatic 96, 140, 79, 0, 854, 0, 0) := by rfl
theorem ft_77_140 : ft_m 77 140 = some (.aload_n 0, 141, 0, 0, 0, 0, 0) := by rfl
theorem ft_77_141 : ft_m 77 141 = some (.getfield 39, 144, 8, 15, 747, 0, 0) := by rfl
theorem ft_77_144 : ft_m 77 144 = some (.iload 9, 146, 9, 0, 0, 0, 0) := by rfl
theorem ft_77_146 : ft_m 77 146 = some (.laload, 147, 0, 0, 0, 0, 0) := by rfl
theorem ft_77_147 : ft_m 77 147 = some (.ladd, 148, 0, 0, 0, 0, 0) := by rfl
theorem ft_77_148 : ft_m 77 148 = some (.lastore, 149, 0, 0, 0, 0, 0) := by rfl
theorem ft_77_149 : ft_m 77 149 = some (.aload_n 0, 150, 0, 0, 0, 0, 0) := by rfl
theorem ft_77_150 : ft_m 77 150 = some (.getfield 42, 153, 8, 16, 748, 0, 0) := by rfl
theorem ft_77_153 : ft_m 77 153 = some (.iload 9, 155, 9, 0, 0, 0, 0) := by rfl
theorem ft_77_155 : ft_m 77 155 = some (.laload, 156, 0, 0, 0, 0, 0) := by rfl
theorem ft_77_156 : ft_m 77 156 = some (.ldc2_w 108, 159, 0, 0, 857, 70368744177664, 0) := by rfl
theorem ft_77_159 : ft_m 77 159 = some (.lcmp, 160, 0, 0, 0, 0, 0) := by rfl
theorem ft_77_160 : ft_m 77 160 = some (.ifCond .le 5, 163, 165, 0, 0, 0, 0) := by rfl
theorem ft_77_163 : ft_m 77 163 = some (.iconst 0, 164, 0, 0, 0, 0, nI 0) := by rfl
theorem ft_77_164 : ft_m 77 164 = some (.ireturn, 165, 0, 0, 0, 0, 0) := by rfl
theorem ft_77_165 : ft_m 77 165 = some (.aload_n 0, 166, 0, 0, 0, 0, 0) := by rfl
theorem ft_77_166 : ft_m 77 166 = some (.getfield 45, 169, 8, 17, 749, 0, 0) := by rfl
theorem ft_77_169 : ft_m 77 169 = some (.iload 9, 171, 9, 0, 0, 0, 0) := by rfl
theorem ft_77_171 : ft_m 77 171 = some (.aload_n 0, 172, 0, 0, 0, 0, 0) := by rfl
theorem ft_77_172 : ft_m 77 172 = some (.getfield 42, 175, 8, 16, 748, 0, 0) := by rfl
theorem ft_77_175 : ft_m 77 175 = some (.iload 9, 177, 9, 0, 0, 0, 0) := by rfl
theorem ft_77_177 : ft_m 77 177 = some (.laload, 178, 0, 0, 0, 0, 0) := by rfl
theorem ft_77_178 : ft_m 77 178 = some (.iload 9, 180, 9, 0, 0, 0, 0) := by rfl
theorem ft_77_180 : ft_m 77 180 = some (.ifCond .ne 7, 183, 187, 0, 0, 0, 0) := by rfl
theorem ft_77_183 : ft_m 77 183 = some (.lconst 0, 184, 0, 0, 0, 0, 0) := by rfl
theorem ft_77_184 : ft_m 77 184 = some (.goto 24, 187, 208, 0, 0, 0, 0) := by rfl
theorem ft_77_187 : ft_m 77 187 = some (.lload 5, 189, 5, 0, 0, 0, 0) := by rfl
theorem ft_77_189 : ft_m 77 189 = some (.invokestatic 96, 192, 79, 0, 854, 0, 0) := by rfl
theorem ft_77_192 : ft_m 77 192 = some (.aload_n 0, 193, 0, 0, 0, 0, 0) := by rfl
theorem ft_77_193 : ft_m 77 193 = some (.getfield 42, 196, 8, 16, 748, 0, 0) := by rfl
theorem ft_77_196 : ft_m 77 196 = some (.iload 9, 198, 9, 0, 0, 0, 0) := by rfl
theorem ft_77_198 : ft_m 77 198 = some (.iconst 1, 199, 0, 0, 0, 0, nI 1) := by rfl
theorem ft_77_199 : ft_m 77 199 = some (.isub, 200, 0, 0, 0, 0, 0) := by rfl
theorem ft_77_200 : ft_m 77 200 = some (.laload, 201, 0, 0, 0, 0, 0) := by rfl
theorem ft_77_201 : ft_m 77 201 = some (.lmul, 202, 0, 0, 0, 0, 0) := by rfl
theorem ft_77_202 : ft_m 77 202 = some (.ldc2_w 102, 205, 0, 0, 850, 16384, 0) := by rfl
theorem ft_77_205 : ft_m 77 205 = some (.invokestatic 110, 208, 80, 0, 858, 0, 0) := by rfl
theorem ft_77_208 : ft_m 77 208 = some (.ladd, 209, 0, 0, 0, 0, 0) := by rfl
theorem ft_77_209 : ft_m 77 209 = some (.lastore, 210, 0, 0, 0, 0, 0) := by rfl
theorem ft_77_210 : ft_m 77 210 = some (.lload 7, 212, 7, 0, 0, 0, 0) := by rfl
theorem ft_77_212 : ft_m 77 212 = some (.aload_n 0, 213, 0, 0, 0, 0, 0) := by rfl
theorem ft_77_213 : ft_m 77 213 = some (.getfield 42, 216, 8, 16, 748, 0, 0) := by rfl
theorem ft_77_216 : ft_m 77 216 = some (.iload 9, 218, 9, 0, 0, 0, 0) := by rfl
theorem ft_77_218 : ft_m 77 218 = some (.laload, 219, 0, 0, 0, 0, 0) := by rfl
theorem ft_77_219 : ft_m 77 219 = some (.ladd, 220, 0, 0, 0, 0, 0) := by rfl
theorem ft_77_220 : ft_m 77 220 = some (.lstore 7, 222, 7, 0, 0, 0, 0) := by rfl
theorem ft_77_222 : ft_m 77 222 = some (.aload_n 0, 223, 0, 0, 0, 0, 0) := by rfl
theorem ft_77_223 : ft_m 77 223 = some (.iload 9, 225, 9, 0, 0, 0, 0) := by rfl
theorem ft_77_225 : ft_m 77 225 = some (.putfield 113, 228, 8, 18, 750, 0, 0) := by rfl
theorem ft_77_228 : ft_m 77 228 = some (.iinc 9 1, 231, 9, 0, 0, 0, nI 1) := by rfl
theorem ft_77_231 : ft_m 77 231 = some (.goto (-200), 234, 31, 0, 0, 0, 0) := by rfl
theorem ft_77_234 : ft_m 77 234 = some (.iconst 1, 235, 0, 0, 0, 0, nI 1) := by rfl
theorem ft_77_235 : ft_m 77 235 = some (.ireturn, 236, 0, 0, 0, 0, 0) := by rfl
theorem ft_78_0 : ft_m 78 0 = some (.lload_n 0, 1, 0, 0, 0, 0, 0) := by rfl
theorem ft_78_1 : ft_m 78 1 = some (.lload_n 2, 2, 2, 0, 0, 0, 0) := by rfl
theorem ft_78_2 : ft_m 78 2 = some (.ldiv, 3, 0, 0, 0, 0, 0) := by rfl
theorem ft_78_3 : ft_m 78 3 = some (.lstore 4, 5, 4, 0, 0, 0, 0) := by rfl
theorem ft_78_5 : ft_m 78 5 = some (.lload_n 0, 6, 0, 0, 0, 0, 0) := by rfl
theorem ft_78_6 : ft_m 78 6 = some (.lload_n 2, 7, 2, 0, 0, 0, 0) := by rfl
theorem ft_78_7 : ft_m 78 7 = some (.lrem, 8, 0, 0, 0, 0, 0) := by rfl
theorem ft_78_8 : ft_m 78 8 = some (.lconst 0, 9, 0, 0, 0, 0, 0) := by rfl
theorem ft_78_9 : ft_m 78 9 = some (.lcmp, 10, 0, 0, 0, 0, 0) := by rfl
theorem ft_78_10 : ft_m 78 10 = some (.ifCond .eq 16, 13, 26, 0, 0, 0, 0) := by rfl
theorem ft_78_13 : ft_m 78 13 = some (.lload_n 0, 14, 0, 0, 0, 0, 0) := by rfl
theorem ft_78_14 : ft_m 78 14 = some (.lconst 0, 15, 0, 0, 0, 0, 0) := by rfl
theorem ft_78_15 : ft_m 78 15 = some (.lcmp, 16, 0, 0, 0, 0, 0) := by rfl
theorem ft_78_16 : ft_m 78 16 = some (.ifCond .ge 10, 19, 26, 0, 0, 0, 0) := by rfl
theorem ft_78_19 : ft_m 78 19 = some (.lload 4, 21, 4, 0, 0, 0, 0) := by rfl
theorem ft_78_21 : ft_m 78 21 = some (.lconst 1, 22, 0, 0, 0, 1, 0) := by rfl
theorem ft_78_22 : ft_m 78 22 = some (.lsub, 23, 0, 0, 0, 0, 0) := by rfl
theorem ft_78_23 : ft_m 78 23 = some (.goto 5, 26, 28, 0, 0, 0, 0) := by rfl
theorem ft_78_26 : ft_m 78 26 = some (.lload 4, 28, 4, 0, 0, 0, 0) := by rfl
theorem ft_78_28 : ft_m 78 28 = some (.lreturn, 29, 0, 0, 0, 0, 0) := by rfl
theorem ft_79_0 : ft_m 79 0 = some (.lload_n 0, 1, 0, 0, 0, 0, 0) := by rfl
theorem ft_79_1 : ft_m 79 1 = some (.lconst 0, 2, 0, 0, 0, 0, 0) := by rfl
theorem ft_79_2 : ft_m 79 2 = some (.lcmp, 3, 0, 0, 0, 0, 0) := by rfl
theorem ft_79_3 : ft_m 79 3 = some (.ifCond .ge 8, 6, 11, 0, 0, 0, 0) := by rfl
theorem ft_79_6 : ft_m 79 6 = some (.lload_n 0, 7, 0, 0, 0, 0, 0) := by rfl
theorem ft_79_7 : ft_m 79 7 = some (.lneg, 8, 0, 0, 0, 0, 0) := by rfl
theorem ft_79_8 : ft_m 79 8 = some (.goto 4, 11, 12, 0, 0, 0, 0) := by rfl
theorem ft_79_11 : ft_m 79 11 = some (.lload_n 0, 12, 0, 0, 0, 0, 0) := by rfl
theorem ft_79_12 : ft_m 79 12 = some (.lreturn, 13, 0, 0, 0, 0, 0) := by rfl
theorem ft_80_0 : ft_m 80 0 = some (.lload_n 0, 1, 0, 0, 0, 0, 0) := by rfl
theorem ft_80_1 : ft_m 80 1 = some (.lload_n 2, 2, 2, 0, 0, 0, 0) := by rfl
theorem ft_80_2 : ft_m 80 2 = some (.lrem, 3, 0, 0, 0, 0, 0) := by rfl
theorem ft_80_3 : ft_m 80 3 = some (.lconst 0, 4, 0, 0, 0, 0, 0) := by rfl
theorem ft_80_4 : ft_m 80 4 = some (.lcmp, 5, 0, 0, 0, 0, 0) := by rfl
theorem ft_80_5 : ft_m 80 5 = some (.ifCond .ne 9, 8, 14, 0, 0, 0, 0) := by rfl
theorem ft_80_8 : ft_m 80 8 = some (.lload_n 0, 9, 0, 0, 0, 0, 0) := by rfl
theorem ft_80_9 : ft_m 80 9 = some (.lload_n 2, 10, 2, 0, 0, 0, 0) := by rfl
theorem ft_80_10 : ft_m 80 10 = some (.ldiv, 11, 0, 0, 0, 0, 0) := by rfl
theorem ft_80_11 : ft_m 80 11 = some (.goto 8, 14, 19, 0, 0, 0, 0) := by rfl
theorem ft_80_14 : ft_m 80 14 = some (.lload_n 0, 15, 0, 0, 0, 0, 0) := by rfl
theorem ft_80_15 : ft_m 80 15 = some (.lload_n 2, 16, 2, 0, 0, 0, 0) := by rfl
theorem ft_80_16 : ft_m 80 16 = some (.ldiv, 17, 0, 0, 0, 0, 0) := by rfl
theorem ft_80_17 : ft_m 80 17 = some (.lconst 1, 18, 0, 0, 0, 1, 0) := by rfl
theorem ft_80_18 : ft_m 80 18 = some (.ladd, 19, 0, 0, 0, 0, 0) := by rfl
theorem ft_80_19 : ft_m 80 19 = some (.lreturn, 20, 0, 0, 0, 0, 0) := by rfl
theorem ft_81_0 : ft_m 81 0 = some (.aload_n 0, 1, 0, 0, 0, 0, 0) := by rfl
theorem ft_81_1 : ft_m 81 1 = some (.getfield 45, 4, 8, 17, 749, 0, 0) := by rfl
theorem ft_81_4 : ft_m 81 4 = some (.iload_n 1, 5, 1, 0, 0, 0, 0) := by rfl
theorem ft_81_5 : ft_m 81 5 = some (.laload, 6, 0, 0, 0, 0, 0) := by rfl
theorem ft_81_6 : ft_m 81 6 = some (.aload_n 0, 7, 0, 0, 0, 0, 0) := by rfl
theorem ft_81_7 : ft_m 81 7 = some (.getfield 45, 10, 8, 17, 749, 0, 0) := by rfl
theorem ft_81_10 : ft_m 81 10 = some (.iload_n 1, 11, 1, 0, 0, 0, 0) := by rfl
theorem ft_81_11 : ft_m 81 11 = some (.iconst 1, 12, 0, 0, 0, 0, nI 1) := by rfl
theorem ft_81_12 : ft_m 81 12 = some (.isub, 13, 0, 0, 0, 0, 0) := by rfl
theorem ft_81_13 : ft_m 81 13 = some (.laload, 14, 0, 0, 0, 0, 0) := by rfl
theorem ft_81_14 : ft_m 81 14 = some (.lcmp, 15, 0, 0, 0, 0, 0) := by rfl
theorem ft_81_15 : ft_m 81 15 = some (.ifCond .le 12, 18, 27, 0, 0, 0, 0) := by rfl
theorem ft_81_18 : ft_m 81 18 = some (.aload_n 0, 19, 0, 0, 0, 0, 0) := by rfl
theorem ft_81_19 : ft_m 81 19 = some (.getfield 45, 22, 8, 17, 749, 0, 0) := by rfl
theorem ft_81_22 : ft_m 81 22 = some (.iload_n 1, 23, 1, 0, 0, 0, 0) := by rfl
theorem ft_81_23 : ft_m 81 23 = some (.laload, 24, 0, 0, 0, 0, 0) := by rfl
theorem ft_81_24 : ft_m 81 24 = some (.goto 11, 27, 35, 0, 0, 0, 0) := by rfl
theorem ft_81_27 : ft_m 81 27 = some (.aload_n 0, 28, 0, 0, 0, 0, 0) := by rfl
theorem ft_81_28 : ft_m 81 28 = some (.getfield 45, 31, 8, 17, 749, 0, 0) := by rfl
theorem ft_81_31 : ft_m 81 31 = some (.iload_n 1, 32, 1, 0, 0, 0, 0) := by rfl
theorem ft_81_32 : ft_m 81 32 = some (.iconst 1, 33, 0, 0, 0, 0, nI 1) := by rfl
theorem ft_81_33 : ft_m 81 33 = some (.isub, 34, 0, 0, 0, 0, 0) := by rfl
theorem ft_81_34 : ft_m 81 34 = some (.laload, 35, 0, 0, 0, 0, 0) := by rfl
theorem ft_81_35 : ft_m 81 35 = some (.lreturn, 36, 0, 0, 0, 0, 0) := by rfl
theorem ft_82_0 : ft_m 82 0 = some (.lconst 0, 1, 0, 0, 0, 0, 0) := by rfl
theorem ft_82_1 : ft_m 82 1 = some (.lstore_n 2, 2, 2, 0, 0, 0, 0) := by rfl
theorem ft_82_2 : ft_m 82 2 = some (.iconst 0, 3, 0, 0, 0, 0, nI 0) := by rfl
theorem ft_82_3 : ft_m 82 3 = some (.istore 4, 5, 4, 0, 0, 0, 0) := by rfl
theorem ft_82_5 : ft_m 82 5 = some (.iload 4, 7, 4, 0, 0, 0, 0) := by rfl
theorem ft_82_7 : ft_m 82 7 = some (.iload_n 1, 8, 1, 0, 0, 0, 0) := by rfl
theorem ft_82_8 : ft_m 82 8 = some (.if_icmp .ge 19, 11, 27, 0, 0, 0, 0) := by rfl
theorem ft_82_11 : ft_m 82 11 = some (.lload_n 2, 12, 2, 0, 0, 0, 0) := by rfl
theorem ft_82_12 : ft_m 82 12 = some (.aload_n 0, 13, 0, 0, 0, 0, 0) := by rfl
theorem ft_82_13 : ft_m 82 13 = some (.getfield 45, 16, 8, 17, 749, 0, 0) := by rfl
theorem ft_82_16 : ft_m 82 16 = some (.iload 4, 18, 4, 0, 0, 0, 0) := by rfl
theorem ft_82_18 : ft_m 82 18 = some (.laload, 19, 0, 0, 0, 0, 0) := by rfl
theorem ft_82_19 : ft_m 82 19 = some (.ladd, 20, 0, 0, 0, 0, 0) := by rfl
theorem ft_82_20 : ft_m 82 20 = some (.lstore_n 2, 21, 2, 0, 0, 0, 0) := by rfl
theorem ft_82_21 : ft_m 82 21 = some (.iinc 4 1, 24, 4, 0, 0, 0, nI 1) := by rfl
theorem ft_82_24 : ft_m 82 24 = some (.goto (-19), 27, 5, 0, 0, 0, 0) := by rfl
theorem ft_82_27 : ft_m 82 27 = some (.lload_n 2, 28, 2, 0, 0, 0, 0) := by rfl
theorem ft_82_28 : ft_m 82 28 = some (.lreturn, 29, 0, 0, 0, 0, 0) := by rfl
theorem ft_83_0 : ft_m 83 0 = some (.aload_n 0, 1, 0, 0, 0, 0, 0) := by rfl
theorem ft_83_1 : ft_m 83 1 = some (.getfield 7, 4, 8, 1, 733, 0, 0) := by rfl
theorem ft_83_4 : ft_m 83 4 = some (.iconst 5, 5, 0, 0, 0, 0, nI 5) := by rfl
theorem ft_83_5 : ft_m 83 5 = some (.iload_n 1, 6, 1, 0, 0, 0, 0) := by rfl
theorem ft_83_6 : ft_m 83 6 = some (.imul, 7, 0, 0, 0, 0, 0) := by rfl
theorem ft_83_7 : ft_m 83 7 = some (.iaload, 8, 0, 0, 0, 0, 0) := by rfl
theorem ft_83_8 : ft_m 83 8 = some (.i2l, 9, 0, 0, 0, 0, 0) := by rfl
theorem ft_83_9 : ft_m 83 9 = some (.invokestatic 96, 12, 79, 0, 854, 0, 0) := by rfl
theorem ft_83_12 : ft_m 83 12 = some (.aload_n 0, 13, 0, 0, 0, 0, 0) := by rfl
theorem ft_83_13 : ft_m 83 13 = some (.getfield 7, 16, 8, 1, 733, 0, 0) := by rfl
theorem ft_83_16 : ft_m 83 16 = some (.iconst 5, 17, 0, 0, 0, 0, nI 5) := by rfl
theorem ft_83_17 : ft_m 83 17 = some (.iload_n 1, 18, 1, 0, 0, 0, 0) := by rfl
theorem ft_83_18 : ft_m 83 18 = some (.imul, 19, 0, 0, 0, 0, 0) := by rfl
theorem ft_83_19 : ft_m 83 19 = some (.iconst 1, 20, 0, 0, 0, 0, nI 1) := by rfl
theorem ft_83_20 : ft_m 83 20 = some (.iadd, 21, 0, 0, 0, 0, 0) := by rfl
theorem ft_83_21 : ft_m 83 21 = some (.iaload, 22, 0, 0, 0, 0, 0) := by rfl
theorem ft_83_22 : ft_m 83 22 = some (.i2l, 23, 0, 0, 0, 0, 0) := by rfl
theorem ft_83_23 : ft_m 83 23 = some (.invokestatic 96, 26, 79, 0, 854, 0, 0) := by rfl
theorem ft_83_26 : ft_m 83 26 = some (.ladd, 27, 0, 0, 0, 0, 0) := by rfl
theorem ft_83_27 : ft_m 83 27 = some (.aload_n 0, 28, 0, 0, 0, 0, 0) := by rfl
theorem ft_83_28 : ft_m 83 28 = some (.getfield 7, 31, 8, 1, 733, 0, 0) := by rfl
theorem ft_83_31 : ft_m 83 31 = some (.iconst 5, 32, 0, 0, 0, 0, nI 5) := by rfl
theorem ft_83_32 : ft_m 83 32 = some (.iload_n 1, 33, 1, 0, 0, 0, 0) := by rfl
theorem ft_83_33 : ft_m 83 33 = some (.imul, 34, 0, 0, 0, 0, 0) := by rfl
theorem ft_83_34 : ft_m 83 34 = some (.iconst 2, 35, 0, 0, 0, 0, nI 2) := by rfl
theorem ft_83_35 : ft_m 83 35 = some (.iadd, 36, 0, 0, 0, 0, 0) := by rfl
theorem ft_83_36 : ft_m 83 36 = some (.iaload, 37, 0, 0, 0, 0, 0) := by rfl
theorem ft_83_37 : ft_m 83 37 = some (.i2l, 38, 0, 0, 0, 0, 0) := by rfl
theorem ft_83_38 : ft_m 83 38 = some (.invokestatic 96, 41, 79, 0, 854, 0, 0) := by rfl
theorem ft_83_41 : ft_m 83 41 = some (.ladd, 42, 0, 0, 0, 0, 0) := by rfl
theorem ft_83_42 : ft_m 83 42 = some (.lreturn, 43, 0, 0, 0, 0, 0) := by rfl
theorem ft_84_0 : ft_m 84 0 = some (.aload_n 0, 1, 0, 0, 0, 0, 0) := by rfl
theorem ft_84_1 : ft_m 84 1 = some (.getfield 66, 4, 8, 0, 732, 0, 0) := by rfl
theorem ft_84_4 : ft_m 84 4 = some (.istore_n 1, 5, 1, 0, 0, 0, 0) := by rfl
theorem ft_84_5 : ft_m 84 5 = some (.aload_n 0, 6, 0, 0, 0, 0, 0) := by rfl
theorem ft_84_6 : ft_m 84 6 = some (.iconst 0, 7, 0, 0, 0, 0, nI 0) := by rfl
theorem ft_84_7 : ft_m 84 7 = some (.putfield 66, 10, 8, 0, 732, 0, 0) := by rfl
theorem ft_84_10 : ft_m 84 10 = some (.aload_n 0, 11, 0, 0, 0, 0, 0) := by rfl
theorem ft_84_11 : ft_m 84 11 = some (.iconst 0, 12, 0, 0, 0, 0, nI 0) := by rfl
theorem ft_84_12 : ft_m 84 12 = some (.putfield 78, 15, 8, 4, 736, 0, 0) := by rfl
theorem ft_84_15 : ft_m 84 15 = some (.iload_n 1, 16, 1, 0, 0, 0, 0) := by rfl
theorem ft_84_16 : ft_m 84 16 = some (.ireturn, 17, 0, 0, 0, 0, 0) := by rfl
theorem ft_85_0 : ft_m 85 0 = some (.aload_n 0, 1, 0, 0, 0, 0, 0) := by rfl
theorem ft_85_1 : ft_m 85 1 = some (.getfield 66, 4, 8, 0, 732, 0, 0) := by rfl
theorem ft_85_4 : ft_m 85 4 = some (.ireturn, 5, 0, 0, 0, 0, 0) := by rfl
theorem ft_86_0 : ft_m 86 0 = some (.iload_n 1, 1, 1, 0, 0, 0, 0) := by rfl
theorem ft_86_1 : ft_m 86 1 = some (.i2l, 2, 0, 0, 0, 0, 0) := by rfl
theorem ft_86_2 : ft_m 86 2 = some (.lconst 0, 3, 0, 0, 0, 0, 0) := by rfl
theorem ft_86_3 : ft_m 86 3 = some (.ldc2_w 86, 6, 0, 0, 888, 4, 0) := by rfl
theorem ft_86_6 : ft_m 86 6 = some (.invokestatic 70, 9, 75, 0, 838, 0, 0) := by rfl
theorem ft_86_9 : ft_m 86 9 = some (.ifCond .ne 5, 12, 14, 0, 0, 0, 0) := by rfl
theorem ft_86_12 : ft_m 86 12 = some (.iconst (-1), 13, 0, 0, 0, 0, (-1)) := by rfl
theorem ft_86_13 : ft_m 86 13 = some (.ireturn, 14, 0, 0, 0, 0, 0) := by rfl
theorem ft_86_14 : ft_m 86 14 = some (.aload_n 0, 15, 0, 0, 0, 0, 0) := by rfl
theorem ft_86_15 : ft_m 86 15 = some (.getfield 30, 18, 8, 12, 744, 0, 0) := by rfl
theorem ft_86_18 : ft_m 86 18 = some (.astore 7, 20, 7, 0, 0, 0, 0) := by rfl
theorem ft_86_20 : ft_m 86 20 = some (.aload 7, 22, 7, 0, 0, 0, 0) := by rfl
theorem ft_86_22 : ft_m 86 22 = some (.iconst 0, 23, 0, 0, 0, 0, nI 0) := by rfl
theorem ft_86_23 : ft_m 86 23 = some (.iload_n 2, 24, 2, 0, 0, 0, 0) := by rfl
theorem ft_86_24 : ft_m 86 24 = some (.i2l, 25, 0, 0, 0, 0, 0) := by rfl
theorem ft_86_25 : ft_m 86 25 = some (.lastore, 26, 0, 0, 0, 0, 0) := by rfl
theorem ft_86_26 : ft_m 86 26 = some (.aload 7, 28, 7, 0, 0, 0, 0) := by rfl
theorem ft_86_28 : ft_m 86 28 = some (.iconst 1, 29, 0, 0, 0, 0, nI 1) := by rfl
theorem ft_86_29 : ft_m 86 29 = some (.iload_n 3, 30, 3, 0, 0, 0, 0) := by rfl
theorem ft_86_30 : ft_m 86 30 = some (.i2l, 31, 0, 0, 0, 0, 0) := by rfl
theorem ft_86_31 : ft_m 86 31 = some (.lastore, 32, 0, 0, 0, 0, 0) := by rfl
theorem ft_86_32 : ft_m 86 32 = some (.aload 7, 34, 7, 0, 0, 0, 0) := by rfl
theorem ft_86_34 : ft_m 86 34 = some (.iconst 2, 35, 0, 0, 0, 0, nI 2) := by rfl
theorem ft_86_35 : ft_m 86 35 = some (.iload 4, 37, 4, 0, 0, 0, 0) := by rfl
theorem ft_86_37 : ft_m 86 37 = some (.i2l, 38, 0, 0, 0, 0, 0) := by rfl
theorem ft_86_38 : ft_m 86 38 = some (.lastore, 39, 0, 0, 0, 0, 0) := by rfl
theorem ft_86_39 : ft_m 86 39 = some (.aload 7, 41, 7, 0, 0, 0, 0) := by rfl
theorem ft_86_41 : ft_m 86 41 = some (.iconst 3, 42, 0, 0, 0, 0, nI 3) := by rfl
theorem ft_86_42 : ft_m 86 42 = some (.iload 5, 44, 5, 0, 0, 0, 0) := by rfl
theorem ft_86_44 : ft_m 86 44 = some (.i2l, 45, 0, 0, 0, 0, 0) := by rfl
theorem ft_86_45 : ft_m 86 45 = some (.lastore, 46, 0, 0, 0, 0, 0) := by rfl
theorem ft_86_46 : ft_m 86 46 = some (.aload 7, 48, 7, 0, 0, 0, 0) := by rfl
theorem ft_86_48 : ft_m 86 48 = some (.iconst 4, 49, 0, 0, 0, 0, nI 4) := by rfl
theorem ft_86_49 : ft_m 86 49 = some (.iload 6, 51, 6, 0, 0, 0, 0) := by rfl
theorem ft_86_51 : ft_m 86 51 = some (.i2l, 52, 0, 0, 0, 0, 0) := by rfl
theorem ft_86_52 : ft_m 86 52 = some (.lastore, 53, 0, 0, 0, 0, 0) := by rfl
theorem ft_86_53 : ft_m 86 53 = some (.iconst 0, 54, 0, 0, 0, 0, nI 0) := by rfl
theorem ft_86_54 : ft_m 86 54 = some (.istore 8, 56, 8, 0, 0, 0, 0) := by rfl
theorem ft_86_56 : ft_m 86 56 = some (.iload 8, 58, 8, 0, 0, 0, 0) := by rfl
theorem ft_86_58 : ft_m 86 58 = some (.iload_n 1, 59, 1, 0, 0, 0, 0) := by rfl
theorem ft_86_59 : ft_m 86 59 = some (.if_icmp .gt 28, 62, 87, 0, 0, 0, 0) := by rfl
theorem ft_86_62 : ft_m 86 62 = some (.aload 7, 64, 7, 0, 0, 0, 0) := by rfl
theorem ft_86_64 : ft_m 86 64 = some (.iload 8, 66, 8, 0, 0, 0, 0) := by rfl
theorem ft_86_66 : ft_m 86 66 = some (.laload, 67, 0, 0, 0, 0, 0) := by rfl
theorem ft_86_67 : ft_m 86 67 = some (.ldc2_w 88, 70, 0, 0, 889, (-1000), 0) := by rfl
theorem ft_86_70 : ft_m 86 70 = some (.ldc2_w 90, 73, 0, 0, 890, 1000, 0) := by rfl
theorem ft_86_73 : ft_m 86 73 = some (.invokestatic 70, 76, 75, 0, 838, 0, 0) := by rfl
theorem ft_86_76 : ft_m 86 76 = some (.ifCond .ne 5, 79, 81, 0, 0, 0, 0) := by rfl
theorem ft_86_79 : ft_m 86 79 = some (.iconst (-1), 80, 0, 0, 0, 0, (-1)) := by rfl
theorem ft_86_80 : ft_m 86 80 = some (.ireturn, 81, 0, 0, 0, 0, 0) := by rfl
theorem ft_86_81 : ft_m 86 81 = some (.iinc 8 1, 84, 8, 0, 0, 0, nI 1) := by rfl
theorem ft_86_84 : ft_m 86 84 = some (.goto (-28), 87, 56, 0, 0, 0, 0) := by rfl
theorem ft_86_87 : ft_m 86 87 = some (.iload_n 2, 88, 2, 0, 0, 0, 0) := by rfl
theorem ft_86_88 : ft_m 86 88 = some (.ifCond .ne 7, 91, 95, 0, 0, 0, 0) := by rfl
theorem ft_86_91 : ft_m 86 91 = some (.iconst (-1), 92, 0, 0, 0, 0, (-1)) := by rfl
theorem ft_86_92 : ft_m 86 92 = some (.goto 16, 95, 108, 0, 0, 0, 0) := by rfl
theorem ft_86_95 : ft_m 86 95 = some (.aload_n 0, 96, 0, 0, 0, 0, 0) := by rfl
theorem ft_86_96 : ft_m 86 96 = some (.iload_n 1, 97, 1, 0, 0, 0, 0) := by rfl
theorem ft_86_97 : ft_m 86 97 = some (.invokevirtual 92, 100, 87, 0, 891, 0, 0) := by rfl
theorem ft_86_100 : ft_m 86 100 = some (.ifCond .eq 7, 103, 107, 0, 0, 0, 0) := by rfl
theorem ft_86_103 : ft_m 86 103 = some (.iconst 1, 104, 0, 0, 0, 0, nI 1) := by rfl
theorem ft_86_104 : ft_m 86 104 = some (.goto 4, 107, 108, 0, 0, 0, 0) := by rfl
theorem ft_86_107 : ft_m 86 107 = some (.iconst 0, 108, 0, 0, 0, 0, nI 0) := by rfl
theorem ft_86_108 : ft_m 86 108 = some (.ireturn, 109, 0, 0, 0, 0, 0) := by rfl
theorem ft_87_0 : ft_m 87 0 = some (.iload_n 1, 1, 1, 0, 0, 0, 0) := by rfl
theorem ft_87_1 : ft_m 87 1 = some (.istore_n 2, 2, 2, 0, 0, 0, 0) := by rfl
theorem ft_87_2 : ft_m 87 2 = some (.iload_n 2, 3, 2, 0, 0, 0, 0) := by rfl
theorem ft_87_3 : ft_m 87 3 = some (.iconst 2, 4, 0, 0, 0, 0, nI 2) := by rfl
theorem ft_87_4 : ft_m 87 4 = some (.if_icmp .le 106, 7, 110, 0, 0, 0, 0) := by rfl
theorem ft_87_7 : ft_m 87 7 = some (.aload_n 0, 8, 0, 0, 0, 0, 0) := by rfl
theorem ft_87_8 : ft_m 87 8 = some (.getfield 30, 11, 8, 12, 744, 0, 0) := by rfl
theorem ft_87_11 : ft_m 87 11 = some (.iload_n 2, 12, 2, 0, 0, 0, 0) := by rfl
theorem ft_87_12 : ft_m 87 12 = some (.laload, 13, 0, 0, 0, 0, 0) := by rfl
theorem ft_87_13 : ft_m 87 13 = some (.invokestatic 96, 16, 79, 0, 854, 0, 0) := by rfl
theorem ft_87_16 : ft_m 87 16 = some (.aload_n 0, 17, 0, 0, 0, 0, 0) := by rfl
theorem ft_87_17 : ft_m 87 17 = some (.getfield 30, 20, 8, 12, 744, 0, 0) := by rfl
theorem ft_87_20 : ft_m 87 20 = some (.iconst 0, 21, 0, 0, 0, 0, nI 0) := by rfl
theorem ft_87_21 : ft_m 87 21 = some (.laload, 22, 0, 0, 0, 0, 0) := by rfl
theorem ft_87_22 : ft_m 87 22 = some (.invokestatic 96, 25, 79, 0, 854, 0, 0) := by rfl
theorem ft_87_25 : ft_m 87 25 = some (.lcmp, 26, 0, 0, 0, 0, 0) := by rfl
theorem ft_87_26 : ft_m 87 26 = some (.ifCond .lt 5, 29, 31, 0, 0, 0, 0) := by rfl
theorem ft_87_29 : ft_m 87 29 = some (.iconst 0, 30, 0, 0, 0, 0, nI 0) := by rfl
theorem ft_87_30 : ft_m 87 30 = some (.ireturn, 31, 0, 0, 0, 0, 0) := by rfl
theorem ft_87_31 : ft_m 87 31 = some (.iconst 0, 32, 0, 0, 0, 0, nI 0) := by rfl
theorem ft_87_32 : ft_m 87 32 = some (.istore_n 3, 33, 3, 0, 0, 0, 0) := by rfl
theorem ft_87_33 : ft_m 87 33 = some (.iload_n 3, 34, 3, 0, 0, 0, 0) := by rfl
theorem ft_87_34 : ft_m 87 34 = some (.iload_n 2, 35, 2, 0, 0, 0, 0) := by rfl
theorem ft_87_35 : ft_m 87 35 = some (.if_icmp .ge 44, 38, 79, 0, 0, 0, 0) := by rfl
theorem ft_87_38 : ft_m 87 38 = some (.aload_n 0, 39, 0, 0, 0, 0, 0) := by rfl
theorem ft_87_39 : ft_m 87 39 = some (.getfield 33, 42, 8, 13, 745, 0, 0) := by rfl
theorem ft_87_42 : ft_m 87 42 = some (.iload_n 3, 43, 3, 0, 0, 0, 0) := by rfl
theorem ft_87_43 : ft_m 87 43 = some (.aload_n 0, 44, 0, 0, 0, 0, 0) := by rfl
theorem ft_87_44 : ft_m 87 44 = some (.getfield 30, 47, 8, 12, 744, 0, 0) := by rfl
theorem ft_87_47 : ft_m 87 47 = some (.iconst 0, 48, 0, 0, 0, 0, nI 0) := by rfl
theorem ft_87_48 : ft_m 87 48 = some (.laload, 49, 0, 0, 0, 0, 0) := by rfl
theorem ft_87_49 : ft_m 87 49 = some (.aload_n 0, 50, 0, 0, 0, 0, 0) := by rfl
theorem ft_87_50 : ft_m 87 50 = some (.getfield 30, 53, 8, 12, 744, 0, 0) := by rfl
theorem ft_87_53 : ft_m 87 53 = some (.iload_n 3, 54, 3, 0, 0, 0, 0) := by rfl
theorem ft_87_54 : ft_m 87 54 = some (.laload, 55, 0, 0, 0, 0, 0) := by rfl
theorem ft_87_55 : ft_m 87 55 = some (.lmul, 56, 0, 0, 0, 0, 0) := by rfl
theorem ft_87_56 : ft_m 87 56 = some (.aload_n 0, 57, 0, 0, 0, 0, 0) := by rfl
theorem ft_87_57 : ft_m 87 57 = some (.getfield 30, 60, 8, 12, 744, 0, 0) := by rfl
theorem ft_87_60 : ft_m 87 60 = some (.iload_n 2, 61, 2, 0, 0, 0, 0) := by rfl
theorem ft_87_61 : ft_m 87 61 = some (.laload, 62, 0, 0, 0, 0, 0) := by rfl
theorem ft_87_62 : ft_m 87 62 = some (.aload_n 0, 63, 0, 0, 0, 0, 0) := by rfl
theorem ft_87_63 : ft_m 87 63 = some (.getfield 30, 66, 8, 12, 744, 0, 0) := by rfl
theorem ft_87_66 : ft_m 87 66 = some (.iload_n 2, 67, 2, 0, 0, 0, 0) := by rfl
theorem ft_87_67 : ft_m 87 67 = some (.iload_n 3, 68, 3, 0, 0, 0, 0) := by rfl
theorem ft_87_68 : ft_m 87 68 = some (.isub, 69, 0, 0, 0, 0, 0) := by rfl
theorem ft_87_69 : ft_m 87 69 = some (.laload, 70, 0, 0, 0, 0, 0) := by rfl
theorem ft_87_70 : ft_m 87 70 = some (.lmul, 71, 0, 0, 0, 0, 0) := by rfl
theorem ft_87_71 : ft_m 87 71 = some (.lsub, 72, 0, 0, 0, 0, 0) := by rfl
theorem ft_87_72 : ft_m 87 72 = some (.lastore, 73, 0, 0, 0, 0, 0) := by rfl
theorem ft_87_73 : ft_m 87 73 = some (.iinc 3 1, 76, 3, 0, 0, 0, nI 1) := by rfl
theorem ft_87_76 : ft_m 87 76 = some (.goto (-43), 79, 33, 0, 0, 0, 0) := by rfl
theorem ft_87_79 : ft_m 87 79 = some (.iconst 0, 80, 0, 0, 0, 0, nI 0) := by rfl
theorem ft_87_80 : ft_m 87 80 = some (.istore_n 3, 81, 3, 0, 0, 0, 0) := by rfl
theorem ft_87_81 : ft_m 87 81 = some (.iload_n 3, 82, 3, 0, 0, 0, 0) := by rfl
theorem ft_87_82 : ft_m 87 82 = some (.iload_n 2, 83, 2, 0, 0, 0, 0) := by rfl
theorem ft_87_83 : ft_m 87 83 = some (.if_icmp .ge 21, 86, 104, 0, 0, 0, 0) := by rfl
theorem ft_87_86 : ft_m 87 86 = some (.aload_n 0, 87, 0, 0, 0, 0, 0) := by rfl
theorem ft_87_87 : ft_m 87 87 = some (.getfield 30, 90, 8, 12, 744, 0, 0) := by rfl
theorem ft_87_90 : ft_m 87 90 = some (.iload_n 3, 91, 3, 0, 0, 0, 0) := by rfl
theorem ft_87_91 : ft_m 87 91 = some (.aload_n 0, 92, 0, 0, 0, 0, 0) := by rfl
theorem ft_87_92 : ft_m 87 92 = some (.getfield 33, 95, 8, 13, 745, 0, 0) := by rfl
theorem ft_87_95 : ft_m 87 95 = some (.iload_n 3, 96, 3, 0, 0, 0, 0) := by rfl
theorem ft_87_96 : ft_m 87 96 = some (.laload, 97, 0, 0, 0, 0, 0) := by rfl
theorem ft_87_97 : ft_m 87 97 = some (.lastore, 98, 0, 0, 0, 0, 0) := by rfl
theorem ft_87_98 : ft_m 87 98 = some (.iinc 3 1, 101, 3, 0, 0, 0, nI 1) := by rfl
theorem ft_87_101 : ft_m 87 101 = some (.goto (-20), 104, 81, 0, 0, 0, 0) := by rfl
theorem ft_87_104 : ft_m 87 104 = some (.iinc 2 (-1), 107, 2, 0, 0, 0, (-1)) := by rfl
theorem ft_87_107 : ft_m 87 107 = some (.goto (-105), 110, 2, 0, 0, 0, 0) := by rfl
theorem ft_87_110 : ft_m 87 110 = some (.aload_n 0, 111, 0, 0, 0, 0, 0) := by rfl
theorem ft_87_111 : ft_m 87 111 = some (.getfield 30, 114, 8, 12, 744, 0, 0) := by rfl
theorem ft_87_114 : ft_m 87 114 = some (.iconst 0, 115, 0, 0, 0, 0, nI 0) := by rfl
theorem ft_87_115 : ft_m 87 115 = some (.laload, 116, 0, 0, 0, 0, 0) := by rfl
theorem ft_87_116 : ft_m 87 116 = some (.lstore_n 3, 117, 3, 0, 0, 0, 0) := by rfl
theorem ft_87_117 : ft_m 87 117 = some (.iload_n 2, 118, 2, 0, 0, 0, 0) := by rfl
theorem ft_87_118 : ft_m 87 118 = some (.ifCond .ne 5, 121, 123, 0, 0, 0, 0) := by rfl
theorem ft_87_121 : ft_m 87 121 = some (.iconst 1, 122, 0, 0, 0, 0, nI 1) := by rfl
theorem ft_87_122 : ft_m 87 122 = some (.ireturn, 123, 0, 0, 0, 0, 0) := by rfl
theorem ft_87_123 : ft_m 87 123 = some (.iload_n 2, 124, 2, 0, 0, 0, 0) := by rfl
theorem ft_87_124 : ft_m 87 124 = some (.iconst 1, 125, 0, 0, 0, 0, nI 1) := by rfl
theorem ft_87_125 : ft_m 87 125 = some (.if_icmp .ne 26, 128, 151, 0, 0, 0, 0) := by rfl
theorem ft_87_128 : ft_m 87 128 = some (.aload_n 0, 129, 0, 0, 0, 0, 0) := by rfl
theorem ft_87_129 : ft_m 87 129 = some (.getfield 30, 132, 8, 12, 744, 0, 0) := by rfl
theorem ft_87_132 : ft_m 87 132 = some (.iconst 1, 133, 0, 0, 0, 0, nI 1) := by rfl
theorem ft_87_133 : ft_m 87 133 = some (.laload, 134, 0, 0, 0, 0, 0) := by rfl
theorem ft_87_134 : ft_m 87 134 = some (.invokestatic 96, 137, 79, 0, 854, 0, 0) := by rfl
theorem ft_87_137 : ft_m 87 137 = some (.lload_n 3, 138, 3, 0, 0, 0, 0) := by rfl
theorem ft_87_138 : ft_m 87 138 = some (.invokestatic 96, 141, 79, 0, 854, 0, 0) := by rfl
theorem ft_87_141 : ft_m 87 141 = some (.lcmp, 142, 0, 0, 0, 0, 0) := by rfl
theorem ft_87_142 : ft_m 87 142 = some (.ifCond .ge 7, 145, 149, 0, 0, 0, 0) := by rfl
theorem ft_87_145 : ft_m 87 145 = some (.iconst 1, 146, 0, 0, 0, 0, nI 1) := by rfl
theorem ft_87_146 : ft_m 87 146 = some (.goto 4, 149, 150, 0, 0, 0, 0) := by rfl
theorem ft_87_149 : ft_m 87 149 = some (.iconst 0, 150, 0, 0, 0, 0, nI 0) := by rfl
theorem ft_87_150 : ft_m 87 150 = some (.ireturn, 151, 0, 0, 0, 0, 0) := by rfl
theorem ft_87_151 : ft_m 87 151 = some (.lload_n 3, 152, 3, 0, 0, 0, 0) := by rfl
theorem ft_87_152 : ft_m 87 152 = some (.lconst 0, 153, 0, 0, 0, 0, 0) := by rfl
theorem ft_87_153 : ft_m 87 153 = some (.lcmp, 154, 0, 0, 0, 0, 0) := by rfl
theorem ft_87_154 : ft_m 87 154 = some (.ifCond .ge 15, 157, 169, 0, 0, 0, 0) := by rfl
theorem ft_87_157 : ft_m 87 157 = some (.lload_n 3, 158, 3, 0, 0, 0, 0) := by rfl
theorem ft_87_158 : ft_m 87 158 = some (.lneg, 159, 0, 0, 0, 0, 0) := by rfl
theorem ft_87_159 : ft_m 87 159 = some (.aload_n 0, 160, 0, 0, 0, 0, 0) := by rfl
theorem ft_87_160 : ft_m 87 160 = some (.getfield 30, 163, 8, 12, 744, 0, 0) := by rfl
theorem ft_87_163 : ft_m 87 163 = some (.iconst 2, 164, 0, 0, 0, 0, nI 2) := by rfl
theorem ft_87_164 : ft_m 87 164 = some (.laload, 165, 0, 0, 0, 0, 0) := by rfl
theorem ft_87_165 : ft_m 87 165 = some (.lsub, 166, 0, 0, 0, 0, 0) := by rfl
theorem ft_87_166 : ft_m 87 166 = some (.goto 11, 169, 177, 0, 0, 0, 0) := by rfl
theorem ft_87_169 : ft_m 87 169 = some (.lload_n 3, 170, 3, 0, 0, 0, 0) := by rfl
theorem ft_87_170 : ft_m 87 170 = some (.aload_n 0, 171, 0, 0, 0, 0, 0) := by rfl
theorem ft_87_171 : ft_m 87 171 = some (.getfield 30, 174, 8, 12, 744, 0, 0) := by rfl
theorem ft_87_174 : ft_m 87 174 = some (.iconst 2, 175, 0, 0, 0, 0, nI 2) := by rfl
theorem ft_87_175 : ft_m 87 175 = some (.laload, 176, 0, 0, 0, 0, 0) := by rfl
theorem ft_87_176 : ft_m 87 176 = some (.ladd, 177, 0, 0, 0, 0, 0) := by rfl
theorem ft_87_177 : ft_m 87 177 = some (.lstore 5, 179, 5, 0, 0, 0, 0) := by rfl
theorem ft_87_179 : ft_m 87 179 = some (.aload_n 0, 180, 0, 0, 0, 0, 0) := by rfl
theorem ft_87_180 : ft_m 87 180 = some (.getfield 30, 183, 8, 12, 744, 0, 0) := by rfl
theorem ft_87_183 : ft_m 87 183 = some (.iconst 2, 184, 0, 0, 0, 0, nI 2) := by rfl
theorem ft_87_184 : ft_m 87 184 = some (.laload, 185, 0, 0, 0, 0, 0) := by rfl
theorem ft_87_185 : ft_m 87 185 = some (.invokestatic 96, 188, 79, 0, 854, 0, 0) := by rfl
theorem ft_87_188 : ft_m 87 188 = some (.lload_n 3, 189, 3, 0, 0, 0, 0) := by rfl
theorem ft_87_189 : ft_m 87 189 = some (.invokestatic 96, 192, 79, 0, 854, 0, 0) := by rfl
theorem ft_87_192 : ft_m 87 192 = some (.lcmp, 193, 0, 0, 0, 0, 0) := by rfl
theorem ft_87_193 : ft_m 87 193 = some (.ifCond .ge 22, 196, 215, 0, 0, 0, 0) := by rfl
theorem ft_87_196 : ft_m 87 196 = some (.aload_n 0, 197, 0, 0, 0, 0, 0) := by rfl
theorem ft_87_197 : ft_m 87 197 = some (.getfield 30, 200, 8, 12, 744, 0, 0) := by rfl
theorem ft_87_200 : ft_m 87 200 = some (.iconst 1, 201, 0, 0, 0, 0, nI 1) := by rfl
theorem ft_87_201 : ft_m 87 201 = some (.laload, 202, 0, 0, 0, 0, 0) := by rfl
theorem ft_87_202 : ft_m 87 202 = some (.invokestatic 96, 205, 79, 0, 854, 0, 0) := by rfl
theorem ft_87_205 : ft_m 87 205 = some (.lload 5, 207, 5, 0, 0, 0, 0) := by rfl
theorem ft_87_207 : ft_m 87 207 = some (.lcmp, 208, 0, 0, 0, 0, 0) := by rfl
theorem ft_87_208 : ft_m 87 208 = some (.ifCond .ge 7, 211, 215, 0, 0, 0, 0) := by rfl
theorem ft_87_211 : ft_m 87 211 = some (.iconst 1, 212, 0, 0, 0, 0, nI 1) := by rfl
theorem ft_87_212 : ft_m 87 212 = some (.goto 4, 215, 216, 0, 0, 0, 0) := by rfl
theorem ft_87_215 : ft_m 87 215 = some (.iconst 0, 216, 0, 0, 0, 0, nI 0) := by rfl
theorem ft_87_216 : ft_m 87 216 = some (.ireturn, 217, 0, 0, 0, 0, 0) := by rfl
theorem ft_88_0 : ft_m 88 0 = some (.aload_n 0, 1, 0, 0, 0, 0, 0) := by rfl
theorem ft_88_1 : ft_m 88 1 = some (.iload_n 1, 2, 1, 0, 0, 0, 0) := by rfl
theorem ft_88_2 : ft_m 88 2 = some (.i2l, 3, 0, 0, 0, 0, 0) := by rfl
theorem ft_88_3 : ft_m 88 3 = some (.invokevirtual 136, 6, 89, 0, 899, 0, 0) := by rfl
theorem ft_88_6 : ft_m 88 6 = some (.ifCond .eq 15, 9, 21, 0, 0, 0, 0) := by rfl
theorem ft_88_9 : ft_m 88 9 = some (.iload_n 2, 10, 2, 0, 0, 0, 0) := by rfl
theorem ft_88_10 : ft_m 88 10 = some (.i2l, 11, 0, 0, 0, 0, 0) := by rfl
theorem ft_88_11 : ft_m 88 11 = some (.lconst 0, 12, 0, 0, 0, 0, 0) := by rfl
theorem ft_88_12 : ft_m 88 12 = some (.ldc2_w 140, 15, 0, 0, 903, 6, 0) := by rfl
theorem ft_88_15 : ft_m 88 15 = some (.invokestatic 70, 18, 75, 0, 838, 0, 0) := by rfl
theorem ft_88_18 : ft_m 88 18 = some (.ifCond .ne 7, 21, 25, 0, 0, 0, 0) := by rfl
theorem ft_88_21 : ft_m 88 21 = some (.ldc2_w 142, 24, 0, 0, 904, (-1), 0) := by rfl
theorem ft_88_24 : ft_m 88 24 = some (.lreturn, 25, 0, 0, 0, 0, 0) := by rfl
theorem ft_88_25 : ft_m 88 25 = some (.iload_n 2, 26, 2, 0, 0, 0, 0) := by rfl
theorem ft_88_26 : ft_m 88 26 = some (.ifCond .ne 60, 29, 86, 0, 0, 0, 0) := by rfl
theorem ft_88_29 : ft_m 88 29 = some (.aload_n 0, 30, 0, 0, 0, 0, 0) := by rfl
theorem ft_88_30 : ft_m 88 30 = some (.getfield 30, 33, 8, 12, 744, 0, 0) := by rfl
theorem ft_88_33 : ft_m 88 33 = some (.iconst 0, 34, 0, 0, 0, 0, nI 0) := by rfl
theorem ft_88_34 : ft_m 88 34 = some (.ldc2_w 102, 37, 0, 0, 850, 16384, 0) := by rfl
theorem ft_88_37 : ft_m 88 37 = some (.lastore, 38, 0, 0, 0, 0, 0) := by rfl
theorem ft_88_38 : ft_m 88 38 = some (.aload_n 0, 39, 0, 0, 0, 0, 0) := by rfl
theorem ft_88_39 : ft_m 88 39 = some (.getfield 30, 42, 8, 12, 744, 0, 0) := by rfl
theorem ft_88_42 : ft_m 88 42 = some (.iconst 1, 43, 0, 0, 0, 0, nI 1) := by rfl
theorem ft_88_43 : ft_m 88 43 = some (.aload_n 0, 44, 0, 0, 0, 0, 0) := by rfl
theorem ft_88_44 : ft_m 88 44 = some (.getfield 7, 47, 8, 1, 733, 0, 0) := by rfl
theorem ft_88_47 : ft_m 88 47 = some (.iconst 5, 48, 0, 0, 0, 0, nI 5) := by rfl
theorem ft_88_48 : ft_m 88 48 = some (.iload_n 1, 49, 1, 0, 0, 0, 0) := by rfl
theorem ft_88_49 : ft_m 88 49 = some (.imul, 50, 0, 0, 0, 0, 0) := by rfl
theorem ft_88_50 : ft_m 88 50 = some (.iconst 3, 51, 0, 0, 0, 0, nI 3) := by rfl
theorem ft_88_51 : ft_m 88 51 = some (.iadd, 52, 0, 0, 0, 0, 0) := by rfl
theorem ft_88_52 : ft_m 88 52 = some (.iaload, 53, 0, 0, 0, 0, 0) := by rfl
theorem ft_88_53 : ft_m 88 53 = some (.i2l, 54, 0, 0, 0, 0, 0) := by rfl
theorem ft_88_54 : ft_m 88 54 = some (.lastore, 55, 0, 0, 0, 0, 0) := by rfl
theorem ft_88_55 : ft_m 88 55 = some (.aload_n 0, 56, 0, 0, 0, 0, 0) := by rfl
theorem ft_88_56 : ft_m 88 56 = some (.getfield 30, 59, 8, 12, 744, 0, 0) := by rfl
theorem ft_88_59 : ft_m 88 59 = some (.iconst 2, 60, 0, 0, 0, 0, nI 2) := by rfl
theorem ft_88_60 : ft_m 88 60 = some (.aload_n 0, 61, 0, 0, 0, 0, 0) := by rfl
theorem ft_88_61 : ft_m 88 61 = some (.getfield 7, 64, 8, 1, 733, 0, 0) := by rfl
theorem ft_88_64 : ft_m 88 64 = some (.iconst 5, 65, 0, 0, 0, 0, nI 5) := by rfl
theorem ft_88_65 : ft_m 88 65 = some (.iload_n 1, 66, 1, 0, 0, 0, 0) := by rfl
theorem ft_88_66 : ft_m 88 66 = some (.imul, 67, 0, 0, 0, 0, 0) := by rfl
theorem ft_88_67 : ft_m 88 67 = some (.iconst 4, 68, 0, 0, 0, 0, nI 4) := by rfl
theorem ft_88_68 : ft_m 88 68 = some (.iadd, 69, 0, 0, 0, 0, 0) := by rfl
theorem ft_88_69 : ft_m 88 69 = some (.iaload, 70, 0, 0, 0, 0, 0) := by rfl
theorem ft_88_70 : ft_m 88 70 = some (.i2l, 71, 0, 0, 0, 0, 0) := by rfl
theorem ft_88_71 : ft_m 88 71 = some (.lastore, 72, 0, 0, 0, 0, 0) := by rfl
theorem ft_88_72 : ft_m 88 72 = some (.aload_n 0, 73, 0, 0, 0, 0, 0) := by rfl
theorem ft_88_73 : ft_m 88 73 = some (.iconst 2, 74, 0, 0, 0, 0, nI 2) := by rfl
theorem ft_88_74 : ft_m 88 74 = some (.invokevirtual 92, 77, 87, 0, 891, 0, 0) := by rfl
theorem ft_88_77 : ft_m 88 77 = some (.ifCond .eq 7, 80, 84, 0, 0, 0, 0) := by rfl
theorem ft_88_80 : ft_m 88 80 = some (.lconst 1, 81, 0, 0, 0, 1, 0) := by rfl
theorem ft_88_81 : ft_m 88 81 = some (.goto 4, 84, 85, 0, 0, 0, 0) := by rfl
theorem ft_88_84 : ft_m 88 84 = some (.lconst 0, 85, 0, 0, 0, 0, 0) := by rfl
theorem ft_88_85 : ft_m 88 85 = some (.lreturn, 86, 0, 0, 0, 0, 0) := by rfl
theorem ft_88_86 : ft_m 88 86 = some (.iload_n 2, 87, 2, 0, 0, 0, 0) := by rfl
theorem ft_88_87 : ft_m 88 87 = some (.iconst 1, 88, 0, 0, 0, 0, nI 1) := by rfl
theorem ft_88_88 : ft_m 88 88 = some (.if_icmp .ne 18, 91, 106, 0, 0, 0, 0) := by rfl
theorem ft_88_91 : ft_m 88 91 = some (.aload_n 0, 92, 0, 0, 0, 0, 0) := by rfl
theorem ft_88_92 : ft_m 88 92 = some (.getfield 13, 95, 8, 2, 734, 0, 0) := by rfl
theorem ft_88_95 : ft_m 88 95 = some (.iload_n 1, 96, 1, 0, 0, 0, 0) := by rfl
theorem ft_88_96 : ft_m 88 96 = some (.baload, 97, 0, 0, 0, 0, 0) := by rfl
theorem ft_88_97 : ft_m 88 97 = some (.ifCond .eq 7, 100, 104, 0, 0, 0, 0) := by rfl
theorem ft_88_100 : ft_m 88 100 = some (.lconst 1, 101, 0, 0, 0, 1, 0) := by rfl
theorem ft_88_101 : ft_m 88 101 = some (.goto 4, 104, 105, 0, 0, 0, 0) := by rfl
theorem ft_88_104 : ft_m 88 104 = some (.lconst 0, 105, 0, 0, 0, 0, 0) := by rfl
theorem ft_88_105 : ft_m 88 105 = some (.lreturn, 106, 0, 0, 0, 0, 0) := by rfl
theorem ft_88_106 : ft_m 88 106 = some (.aload_n 0, 107, 0, 0, 0, 0, 0) := by rfl
theorem ft_88_107 : ft_m 88 107 = some (.getfield 13, 110, 8, 2, 734, 0, 0) := by rfl
theorem ft_88_110 : ft_m 88 110 = some (.iload_n 1, 111, 1, 0, 0, 0, 0) := by rfl
theorem ft_88_111 : ft_m 88 111 = some (.baload, 112, 0, 0, 0, 0, 0) := by rfl
theorem ft_88_112 : ft_m 88 112 = some (.ifCond .eq 9, 115, 121, 0, 0, 0, 0) := by rfl
theorem ft_88_115 : ft_m 88 115 = some (.ldc2_w 142, 118, 0, 0, 904, (-1), 0) := by rfl
theorem ft_88_118 : ft_m 88 118 = some (.goto 15, 121, 133, 0, 0, 0, 0) := by rfl
theorem ft_88_121 : ft_m 88 121 = some (.aload_n 0, 122, 0, 0, 0, 0, 0) := by rfl
theorem ft_88_122 : ft_m 88 122 = some (.getfield 17, 125, 8, 3, 735, 0, 0) := by rfl
theorem ft_88_125 : ft_m 88 125 = some (.iconst 5, 126, 0, 0, 0, 0, nI 5) := by rfl
theorem ft_88_126 : ft_m 88 126 = some (.iload_n 1, 127, 1, 0, 0, 0, 0) := by rfl
theorem ft_88_127 : ft_m 88 127 = some (.imul, 128, 0, 0, 0, 0, 0) := by rfl
theorem ft_88_128 : ft_m 88 128 = some (.iload_n 2, 129, 2, 0, 0, 0, 0) := by rfl
theorem ft_88_129 : ft_m 88 129 = some (.iadd, 130, 0, 0, 0, 0, 0) := by rfl
theorem ft_88_130 : ft_m 88 130 = some (.iconst 2, 131, 0, 0, 0, 0, nI 2) := by rfl
theorem ft_88_131 : ft_m 88 131 = some (.isub, 132, 0, 0, 0, 0, 0) := by rfl
theorem ft_88_132 : ft_m 88 132 = some (.laload, 133, 0, 0, 0, 0, 0) := by rfl
theorem ft_88_133 : ft_m 88 133 = some (.lreturn, 134, 0, 0, 0, 0, 0) := by rfl
theorem ft_89_0 : ft_m 89 0 = some (.lload_n 1, 1, 1, 0, 0, 0, 0) := by rfl
theorem ft_89_1 : ft_m 89 1 = some (.lconst 0, 2, 0, 0, 0, 0, 0) := by rfl
theorem ft_89_2 : ft_m 89 2 = some (.aload_n 0, 3, 0, 0, 0, 0, 0) := by rfl
theorem ft_89_3 : ft_m 89 3 = some (.getfield 66, 6, 8, 0, 732, 0, 0) := by rfl
theorem ft_89_6 : ft_m 89 6 = some (.i2l, 7, 0, 0, 0, 0, 0) := by rfl
theorem ft_89_7 : ft_m 89 7 = some (.lconst 1, 8, 0, 0, 0, 1, 0) := by rfl
theorem ft_89_8 : ft_m 89 8 = some (.lsub, 9, 0, 0, 0, 0, 0) := by rfl
theorem ft_89_9 : ft_m 89 9 = some (.invokestatic 70, 12, 75, 0, 838, 0, 0) := by rfl
theorem ft_89_12 : ft_m 89 12 = some (.ireturn, 13, 0, 0, 0, 0, 0) := by rfl
theorem ft_90_0 : ft_m 90 0 = some (.aload_n 0, 1, 0, 0, 0, 0, 0) := by rfl
theorem ft_90_1 : ft_m 90 1 = some (.iload_n 1, 2, 1, 0, 0, 0, 0) := by rfl
theorem ft_90_2 : ft_m 90 2 = some (.i2l, 3, 0, 0, 0, 0, 0) := by rfl
theorem ft_90_3 : ft_m 90 3 = some (.invokevirtual 136, 6, 89, 0, 899, 0, 0) := by rfl
theorem ft_90_6 : ft_m 90 6 = some (.ifCond .eq 36, 9, 42, 0, 0, 0, 0) := by rfl
theorem ft_90_9 : ft_m 90 9 = some (.iload_n 3, 10, 3, 0, 0, 0, 0) := by rfl
theorem ft_90_10 : ft_m 90 10 = some (.i2l, 11, 0, 0, 0, 0, 0) := by rfl
theorem ft_90_11 : ft_m 90 11 = some (.lconst 0, 12, 0, 0, 0, 0, 0) := by rfl
theorem ft_90_12 : ft_m 90 12 = some (.ldc2_w 144, 15, 0, 0, 909, 3, 0) := by rfl
theorem ft_90_15 : ft_m 90 15 = some (.invokestatic 70, 18, 75, 0, 838, 0, 0) := by rfl
theorem ft_90_18 : ft_m 90 18 = some (.ifCond .eq 24, 21, 42, 0, 0, 0, 0) := by rfl
theorem ft_90_21 : ft_m 90 21 = some (.iload_n 2, 22, 2, 0, 0, 0, 0) := by rfl
theorem ft_90_22 : ft_m 90 22 = some (.i2l, 23, 0, 0, 0, 0, 0) := by rfl
theorem ft_90_23 : ft_m 90 23 = some (.lconst 0, 24, 0, 0, 0, 0, 0) := by rfl
theorem ft_90_24 : ft_m 90 24 = some (.ldc2_w 90, 27, 0, 0, 890, 1000, 0) := by rfl
theorem ft_90_27 : ft_m 90 27 = some (.invokestatic 70, 30, 75, 0, 838, 0, 0) := by rfl
theorem ft_90_30 : ft_m 90 30 = some (.ifCond .eq 12, 33, 42, 0, 0, 0, 0) := by rfl
theorem ft_90_33 : ft_m 90 33 = some (.aload_n 0, 34, 0, 0, 0, 0, 0) := by rfl
theorem ft_90_34 : ft_m 90 34 = some (.iload_n 1, 35, 1, 0, 0, 0, 0) := by rfl
theorem ft_90_35 : ft_m 90 35 = some (.iload_n 2, 36, 2, 0, 0, 0, 0) := by rfl
theorem ft_90_36 : ft_m 90 36 = some (.invokevirtual 116, 39, 77, 0, 845, 0, 0) := by rfl
theorem ft_90_39 : ft_m 90 39 = some (.ifCond .ne 7, 42, 46, 0, 0, 0, 0) := by rfl
theorem ft_90_42 : ft_m 90 42 = some (.ldc2_w 142, 45, 0, 0, 904, (-1), 0) := by rfl
theorem ft_90_45 : ft_m 90 45 = some (.lreturn, 46, 0, 0, 0, 0, 0) := by rfl
theorem ft_90_46 : ft_m 90 46 = some (.iload_n 3, 47, 3, 0, 0, 0, 0) := by rfl
theorem ft_90_47 : ft_m 90 47 = some (.ifCond .ne 12, 50, 59, 0, 0, 0, 0) := by rfl
theorem ft_90_50 : ft_m 90 50 = some (.aload_n 0, 51, 0, 0, 0, 0, 0) := by rfl
theorem ft_90_51 : ft_m 90 51 = some (.getfield 36, 54, 8, 14, 746, 0, 0) := by rfl
theorem ft_90_54 : ft_m 90 54 = some (.iload_n 2, 55, 2, 0, 0, 0, 0) := by rfl
theorem ft_90_55 : ft_m 90 55 = some (.laload, 56, 0, 0, 0, 0, 0) := by rfl
theorem ft_90_56 : ft_m 90 56 = some (.goto 37, 59, 93, 0, 0, 0, 0) := by rfl
theorem ft_90_59 : ft_m 90 59 = some (.iload_n 3, 60, 3, 0, 0, 0, 0) := by rfl
theorem ft_90_60 : ft_m 90 60 = some (.iconst 1, 61, 0, 0, 0, 0, nI 1) := by rfl
theorem ft_90_61 : ft_m 90 61 = some (.if_icmp .ne 12, 64, 73, 0, 0, 0, 0) := by rfl
theorem ft_90_64 : ft_m 90 64 = some (.aload_n 0, 65, 0, 0, 0, 0, 0) := by rfl
theorem ft_90_65 : ft_m 90 65 = some (.getfield 39, 68, 8, 15, 747, 0, 0) := by rfl
theorem ft_90_68 : ft_m 90 68 = some (.iload_n 2, 69, 2, 0, 0, 0, 0) := by rfl
theorem ft_90_69 : ft_m 90 69 = some (.laload, 70, 0, 0, 0, 0, 0) := by rfl
theorem ft_90_70 : ft_m 90 70 = some (.goto 23, 73, 93, 0, 0, 0, 0) := by rfl
theorem ft_90_73 : ft_m 90 73 = some (.iload_n 3, 74, 3, 0, 0, 0, 0) := by rfl
theorem ft_90_74 : ft_m 90 74 = some (.iconst 2, 75, 0, 0, 0, 0, nI 2) := by rfl
theorem ft_90_75 : ft_m 90 75 = some (.if_icmp .ne 12, 78, 87, 0, 0, 0, 0) := by rfl
theorem ft_90_78 : ft_m 90 78 = some (.aload_n 0, 79, 0, 0, 0, 0, 0) := by rfl
theorem ft_90_79 : ft_m 90 79 = some (.getfield 42, 82, 8, 16, 748, 0, 0) := by rfl
theorem ft_90_82 : ft_m 90 82 = some (.iload_n 2, 83, 2, 0, 0, 0, 0) := by rfl
theorem ft_90_83 : ft_m 90 83 = some (.laload, 84, 0, 0, 0, 0, 0) := by rfl
theorem ft_90_84 : ft_m 90 84 = some (.goto 9, 87, 93, 0, 0, 0, 0) := by rfl
theorem ft_90_87 : ft_m 90 87 = some (.aload_n 0, 88, 0, 0, 0, 0, 0) := by rfl
theorem ft_90_88 : ft_m 90 88 = some (.getfield 45, 91, 8, 17, 749, 0, 0) := by rfl
theorem ft_90_91 : ft_m 90 91 = some (.iload_n 2, 92, 2, 0, 0, 0, 0) := by rfl
theorem ft_90_92 : ft_m 90 92 = some (.laload, 93, 0, 0, 0, 0, 0) := by rfl
theorem ft_90_93 : ft_m 90 93 = some (.lreturn, 94, 0, 0, 0, 0, 0) := by rfl
theorem ft_91_0 : ft_m 91 0 = some (.iload_n 1, 1, 1, 0, 0, 0, 0) := by rfl
theorem ft_91_1 : ft_m 91 1 = some (.i2l, 2, 0, 0, 0, 0, 0) := by rfl
theorem ft_91_2 : ft_m 91 2 = some (.ldc2_w 177, 5, 0, 0, 914, 16, 0) := by rfl
theorem ft_91_5 : ft_m 91 5 = some (.ldc2_w 179, 8, 0, 0, 915, 47, 0) := by rfl
theorem ft_91_8 : ft_m 91 8 = some (.invokestatic 70, 11, 75, 0, 838, 0, 0) := by rfl
theorem ft_91_11 : ft_m 91 11 = some (.ifCond .eq 29, 14, 40, 0, 0, 0, 0) := by rfl
theorem ft_91_14 : ft_m 91 14 = some (.iload_n 2, 15, 2, 0, 0, 0, 0) := by rfl
theorem ft_91_15 : ft_m 91 15 = some (.i2l, 16, 0, 0, 0, 0, 0) := by rfl
theorem ft_91_16 : ft_m 91 16 = some (.ldc2_w 181, 19, 0, 0, 916, 2, 0) := by rfl
theorem ft_91_19 : ft_m 91 19 = some (.ldc2_w 183, 22, 0, 0, 917, 24, 0) := by rfl
theorem ft_91_22 : ft_m 91 22 = some (.invokestatic 70, 25, 75, 0, 838, 0, 0) := by rfl
theorem ft_91_25 : ft_m 91 25 = some (.ifCond .eq 15, 28, 40, 0, 0, 0, 0) := by rfl
theorem ft_91_28 : ft_m 91 28 = some (.iload_n 3, 29, 3, 0, 0, 0, 0) := by rfl
theorem ft_91_29 : ft_m 91 29 = some (.i2l, 30, 0, 0, 0, 0, 0) := by rfl
theorem ft_91_30 : ft_m 91 30 = some (.lconst 0, 31, 0, 0, 0, 0, 0) := by rfl
theorem ft_91_31 : ft_m 91 31 = some (.ldc2_w 181, 34, 0, 0, 916, 2, 0) := by rfl
theorem ft_91_34 : ft_m 91 34 = some (.invokestatic 70, 37, 75, 0, 838, 0, 0) := by rfl
theorem ft_91_37 : ft_m 91 37 = some (.ifCond .ne 6, 40, 43, 0, 0, 0, 0) := by rfl
theorem ft_91_40 : ft_m 91 40 = some (.bipush (-2), 42, 0, 0, 0, 0, (-2)) := by rfl
theorem ft_91_42 : ft_m 91 42 = some (.ireturn, 43, 0, 0, 0, 0, 0) := by rfl
theorem ft_91_43 : ft_m 91 43 = some (.aload_n 0, 44, 0, 0, 0, 0, 0) := by rfl
theorem ft_91_44 : ft_m 91 44 = some (.iconst 0, 45, 0, 0, 0, 0, nI 0) := by rfl
theorem ft_91_45 : ft_m 91 45 = some (.putfield 78, 48, 8, 4, 736, 0, 0) := by rfl
theorem ft_91_48 : ft_m 91 48 = some (.aload_n 0, 49, 0, 0, 0, 0, 0) := by rfl
theorem ft_91_49 : ft_m 91 49 = some (.getfield 66, 52, 8, 0, 732, 0, 0) := by rfl
theorem ft_91_52 : ft_m 91 52 = some (.ifCond .le 7, 55, 59, 0, 0, 0, 0) := by rfl
theorem ft_91_55 : ft_m 91 55 = some (.iconst 1, 56, 0, 0, 0, 0, nI 1) := by rfl
theorem ft_91_56 : ft_m 91 56 = some (.goto 4, 59, 60, 0, 0, 0, 0) := by rfl
theorem ft_91_59 : ft_m 91 59 = some (.iconst 0, 60, 0, 0, 0, 0, nI 0) := by rfl
theorem ft_91_60 : ft_m 91 60 = some (.istore 4, 62, 4, 0, 0, 0, 0) := by rfl
theorem ft_91_62 : ft_m 91 62 = some (.iconst 0, 63, 0, 0, 0, 0, nI 0) := by rfl
theorem ft_91_63 : ft_m 91 63 = some (.istore 5, 65, 5, 0, 0, 0, 0) := by rfl
theorem ft_91_65 : ft_m 91 65 = some (.iload 5, 67, 5, 0, 0, 0, 0) := by rfl
theorem ft_91_67 : ft_m 91 67 = some (.aload_n 0, 68, 0, 0, 0, 0, 0) := by rfl
theorem ft_91_68 : ft_m 91 68 = some (.getfield 66, 71, 8, 0, 732, 0, 0) := by rfl
theorem ft_91_71 : ft_m 91 71 = some (.if_icmp .ge 40, 74, 111, 0, 0, 0, 0) := by rfl
theorem ft_91_74 : ft_m 91 74 = some (.iload 4, 76, 4, 0, 0, 0, 0) := by rfl
theorem ft_91_76 : ft_m 91 76 = some (.ifCond .eq 17, 79, 93, 0, 0, 0, 0) := by rfl
theorem ft_91_79 : ft_m 91 79 = some (.aload_n 0, 80, 0, 0, 0, 0, 0) := by rfl
theorem ft_91_80 : ft_m 91 80 = some (.getfield 13, 83, 8, 2, 734, 0, 0) := by rfl
theorem ft_91_83 : ft_m 91 83 = some (.iload 5, 85, 5, 0, 0, 0, 0) := by rfl
theorem ft_91_85 : ft_m 91 85 = some (.baload, 86, 0, 0, 0, 0, 0) := by rfl
theorem ft_91_86 : ft_m 91 86 = some (.ifCond .ne 7, 89, 93, 0, 0, 0, 0) := by rfl
theorem ft_91_89 : ft_m 91 89 = some (.iconst 1, 90, 0, 0, 0, 0, nI 1) := by rfl
theorem ft_91_90 : ft_m 91 90 = some (.goto 4, 93, 94, 0, 0, 0, 0) := by rfl
theorem ft_91_93 : ft_m 91 93 = some (.iconst 0, 94, 0, 0, 0, 0, nI 0) := by rfl
theorem ft_91_94 : ft_m 91 94 = some (.istore 4, 96, 4, 0, 0, 0, 0) := by rfl
theorem ft_91_96 : ft_m 91 96 = some (.aload_n 0, 97, 0, 0, 0, 0, 0) := by rfl
theorem ft_91_97 : ft_m 91 97 = some (.getfield 48, 100, 8, 22, 753, 0, 0) := by rfl
theorem ft_91_100 : ft_m 91 100 = some (.iload 5, 102, 5, 0, 0, 0, 0) := by rfl
theorem ft_91_102 : ft_m 91 102 = some (.iload 5, 104, 5, 0, 0, 0, 0) := by rfl
theorem ft_91_104 : ft_m 91 104 = some (.iastore, 105, 0, 0, 0, 0, 0) := by rfl
theorem ft_91_105 : ft_m 91 105 = some (.iinc 5 1, 108, 5, 0, 0, 0, nI 1) := by rfl
theorem ft_91_108 : ft_m 91 108 = some (.goto (-43), 111, 65, 0, 0, 0, 0) := by rfl
theorem ft_91_111 : ft_m 91 111 = some (.iload 4, 113, 4, 0, 0, 0, 0) := by rfl
theorem ft_91_113 : ft_m 91 113 = some (.ifCond .ne 5, 116, 118, 0, 0, 0, 0) := by rfl
theorem ft_91_116 : ft_m 91 116 = some (.iconst (-1), 117, 0, 0, 0, 0, (-1)) := by rfl
theorem ft_91_117 : ft_m 91 117 = some (.ireturn, 118, 0, 0, 0, 0, 0) := by rfl
theorem ft_91_118 : ft_m 91 118 = some (.aload_n 0, 119, 0, 0, 0, 0, 0) := by rfl
theorem ft_91_119 : ft_m 91 119 = some (.iconst 0, 120, 0, 0, 0, 0, nI 0) := by rfl
theorem ft_91_120 : ft_m 91 120 = some (.putfield 185, 123, 8, 25, 756, 0, 0) := by rfl
theorem ft_91_123 : ft_m 91 123 = some (.iconst 1, 124, 0, 0, 0, 0, nI 1) := by rfl
theorem ft_91_124 : ft_m 91 124 = some (.istore 5, 126, 5, 0, 0, 0, 0) := by rfl
theorem ft_91_126 : ft_m 91 126 = some (.iload 5, 128, 5, 0, 0, 0, 0) := by rfl
theorem ft_91_128 : ft_m 91 128 = some (.ifCond .eq 171, 131, 299, 0, 0, 0, 0) := by rfl
theorem ft_91_131 : ft_m 91 131 = some (.bipush 24, 133, 0, 0, 0, 0, nI 24) := by rfl
theorem ft_91_133 : ft_m 91 133 = some (.istore 6, 135, 6, 0, 0, 0, 0) := by rfl
theorem ft_91_135 : ft_m 91 135 = some (.iload 6, 137, 6, 0, 0, 0, 0) := by rfl
theorem ft_91_137 : ft_m 91 137 = some (.ifCond .lt 153, 140, 290, 0, 0, 0, 0) := by rfl
theorem ft_91_140 : ft_m 91 140 = some (.aload_n 0, 141, 0, 0, 0, 0, 0) := by rfl
theorem ft_91_141 : ft_m 91 141 = some (.iload_n 1, 142, 1, 0, 0, 0, 0) := by rfl
theorem ft_91_142 : ft_m 91 142 = some (.iload_n 2, 143, 2, 0, 0, 0, 0) := by rfl
theorem ft_91_143 : ft_m 91 143 = some (.iload_n 3, 144, 3, 0, 0, 0, 0) := by rfl
theorem ft_91_144 : ft_m 91 144 = some (.iload 6, 146, 6, 0, 0, 0, 0) := by rfl
theorem ft_91_146 : ft_m 91 146 = some (.invokevirtual 188, 149, 92, 0, 918, 0, 0) := by rfl
theorem ft_91_149 : ft_m 91 149 = some (.ifCond .eq 135, 152, 284, 0, 0, 0, 0) := by rfl
theorem ft_91_152 : ft_m 91 152 = some (.aload_n 0, 153, 0, 0, 0, 0, 0) := by rfl
theorem ft_91_153 : ft_m 91 153 = some (.getfield 185, 156, 8, 25, 756, 0, 0) := by rfl
theorem ft_91_156 : ft_m 91 156 = some (.ifCond .eq 57, 159, 213, 0, 0, 0, 0) := by rfl
theorem ft_91_159 : ft_m 91 159 = some (.aload_n 0, 160, 0, 0, 0, 0, 0) := by rfl
theorem ft_91_160 : ft_m 91 160 = some (.getfield 167, 163, 8, 24, 755, 0, 0) := by rfl
theorem ft_91_163 : ft_m 91 163 = some (.aload_n 0, 164, 0, 0, 0, 0, 0) := by rfl
theorem ft_91_164 : ft_m 91 164 = some (.getfield 192, 167, 8, 26, 757, 0, 0) := by rfl
theorem ft_91_167 : ft_m 91 167 = some (.if_icmp .gt 46, 170, 213, 0, 0, 0, 0) := by rfl
theorem ft_91_170 : ft_m 91 170 = some (.aload_n 0, 171, 0, 0, 0, 0, 0) := by rfl
theorem ft_91_171 : ft_m 91 171 = some (.getfield 167, 174, 8, 24, 755, 0, 0) := by rfl
theorem ft_91_174 : ft_m 91 174 = some (.aload_n 0, 175, 0, 0, 0, 0, 0) := by rfl
theorem ft_91_175 : ft_m 91 175 = some (.getfield 192, 178, 8, 26, 757, 0, 0) := by rfl
theorem ft_91_178 : ft_m 91 178 = some (.if_icmp .ne 39, 181, 217, 0, 0, 0, 0) := by rfl
theorem ft_91_181 : ft_m 91 181 = some (.aload_n 0, 182, 0, 0, 0, 0, 0) := by rfl
theorem ft_91_182 : ft_m 91 182 = some (.getfield 51, 185, 8, 23, 754, 0, 0) := by rfl
theorem ft_91_185 : ft_m 91 185 = some (.bipush 9, 187, 0, 0, 0, 0, nI 9) := by rfl
theorem ft_91_187 : ft_m 91 187 = some (.aload_n 0, 188, 0, 0, 0, 0, 0) := by rfl
theorem ft_91_188 : ft_m 91 188 = some (.getfield 66, 191, 8, 0, 732, 0, 0) := by rfl
theorem ft_91_191 : ft_m 91 191 = some (.imul, 192, 0, 0, 0, 0, 0) := by rfl
theorem ft_91_192 : ft_m 91 192 = some (.iconst 1, 193, 0, 0, 0, 0, nI 1) := by rfl
theorem ft_91_193 : ft_m 91 193 = some (.isub, 194, 0, 0, 0, 0, 0) := by rfl
theorem ft_91_194 : ft_m 91 194 = some (.laload, 195, 0, 0, 0, 0, 0) := by rfl
theorem ft_91_195 : ft_m 91 195 = some (.aload_n 0, 196, 0, 0, 0, 0, 0) := by rfl
theorem ft_91_196 : ft_m 91 196 = some (.getfield 21, 199, 8, 9, 741, 0, 0) := by rfl
theorem ft_91_199 : ft_m 91 199 = some (.bipush 9, 201, 0, 0, 0, 0, nI 9) := by rfl
theorem ft_91_201 : ft_m 91 201 = some (.aload_n 0, 202, 0, 0, 0, 0, 0) := by rfl
theorem ft_91_202 : ft_m 91 202 = some (.getfield 66, 205, 8, 0, 732, 0, 0) := by rfl
theorem ft_91_205 : ft_m 91 205 = some (.imul, 206, 0, 0, 0, 0, 0) := by rfl
theorem ft_91_206 : ft_m 91 206 = some (.iconst 1, 207, 0, 0, 0, 0, nI 1) := by rfl
theorem ft_91_207 : ft_m 91 207 = some (.isub, 208, 0, 0, 0, 0, 0) := by rfl
theorem ft_91_208 : ft_m 91 208 = some (.laload, 209, 0, 0, 0, 0, 0) := by rfl
theorem ft_91_209 : ft_m 91 209 = some (.lcmp, 210, 0, 0, 0, 0, 0) := by rfl
theorem ft_91_210 : ft_m 91 210 = some (.ifCond .ge 7, 213, 217, 0, 0, 0, 0) := by rfl
theorem ft_91_213 : ft_m 91 213 = some (.iconst 1, 214, 0, 0, 0, 0, nI 1) := by rfl
theorem ft_91_214 : ft_m 91 214 = some (.goto 4, 217, 218, 0, 0, 0, 0) := by rfl
theorem ft_91_217 : ft_m 91 217 = some (.iconst 0, 218, 0, 0, 0, 0, nI 0) := by rfl
theorem ft_91_218 : ft_m 91 218 = some (.istore 7, 220, 7, 0, 0, 0, 0) := by rfl
theorem ft_91_220 : ft_m 91 220 = some (.aload_n 0, 221, 0, 0, 0, 0, 0) := by rfl
theorem ft_91_221 : ft_m 91 221 = some (.dup, 222, 0, 0, 0, 0, 0) := by rfl
theorem ft_91_222 : ft_m 91 222 = some (.getfield 185, 225, 8, 25, 756, 0, 0) := by rfl
theorem ft_91_225 : ft_m 91 225 = some (.iconst 1, 226, 0, 0, 0, 0, nI 1) := by rfl
theorem ft_91_226 : ft_m 91 226 = some (.iadd, 227, 0, 0, 0, 0, 0) := by rfl
theorem ft_91_227 : ft_m 91 227 = some (.putfield 185, 230, 8, 25, 756, 0, 0) := by rfl
theorem ft_91_230 : ft_m 91 230 = some (.iload 7, 232, 7, 0, 0, 0, 0) := by rfl
theorem ft_91_232 : ft_m 91 232 = some (.ifCond .eq 52, 235, 284, 0, 0, 0, 0) := by rfl
theorem ft_91_235 : ft_m 91 235 = some (.aload_n 0, 236, 0, 0, 0, 0, 0) := by rfl
theorem ft_91_236 : ft_m 91 236 = some (.aload_n 0, 237, 0, 0, 0, 0, 0) := by rfl
theorem ft_91_237 : ft_m 91 237 = some (.getfield 167, 240, 8, 24, 755, 0, 0) := by rfl
theorem ft_91_240 : ft_m 91 240 = some (.putfield 192, 243, 8, 26, 757, 0, 0) := by rfl
theorem ft_91_243 : ft_m 91 243 = some (.aload_n 0, 244, 0, 0, 0, 0, 0) := by rfl
theorem ft_91_244 : ft_m 91 244 = some (.iload 6, 246, 6, 0, 0, 0, 0) := by rfl
theorem ft_91_246 : ft_m 91 246 = some (.putfield 195, 249, 8, 7, 739, 0, 0) := by rfl
theorem ft_91_249 : ft_m 91 249 = some (.iconst 0, 250, 0, 0, 0, 0, nI 0) := by rfl
theorem ft_91_250 : ft_m 91 250 = some (.istore 8, 252, 8, 0, 0, 0, 0) := by rfl
theorem ft_91_252 : ft_m 91 252 = some (.iload 8, 254, 8, 0, 0, 0, 0) := by rfl
theorem ft_91_254 : ft_m 91 254 = some (.bipush 9, 256, 0, 0, 0, 0, nI 9) := by rfl
theorem ft_91_256 : ft_m 91 256 = some (.aload_n 0, 257, 0, 0, 0, 0, 0) := by rfl
theorem ft_91_257 : ft_m 91 257 = some (.getfield 66, 260, 8, 0, 732, 0, 0) := by rfl
theorem ft_91_260 : ft_m 91 260 = some (.imul, 261, 0, 0, 0, 0, 0) := by rfl
theorem ft_91_261 : ft_m 91 261 = some (.if_icmp .ge 23, 264, 284, 0, 0, 0, 0) := by rfl
theorem ft_91_264 : ft_m 91 264 = some (.aload_n 0, 265, 0, 0, 0, 0, 0) := by rfl
theorem ft_91_265 : ft_m 91 265 = some (.getfield 21, 268, 8, 9, 741, 0, 0) := by rfl
theorem ft_91_268 : ft_m 91 268 = some (.iload 8, 270, 8, 0, 0, 0, 0) := by rfl
theorem ft_91_270 : ft_m 91 270 = some (.aload_n 0, 271, 0, 0, 0, 0, 0) := by rfl
theorem ft_91_271 : ft_m 91 271 = some (.getfield 51, 274, 8, 23, 754, 0, 0) := by rfl
theorem ft_91_274 : ft_m 91 274 = some (.iload 8, 276, 8, 0, 0, 0, 0) := by rfl
theorem ft_91_276 : ft_m 91 276 = some (.laload, 277, 0, 0, 0, 0, 0) := by rfl
theorem ft_91_277 : ft_m 91 277 = some (.lastore, 278, 0, 0, 0, 0, 0) := by rfl
theorem ft_91_278 : ft_m 91 278 = some (.iinc 8 1, 281, 8, 0, 0, 0, nI 1) := by rfl
theorem ft_91_281 : ft_m 91 281 = some (.goto (-29), 284, 252, 0, 0, 0, 0) := by rfl
theorem ft_91_284 : ft_m 91 284 = some (.iinc 6 (-1), 287, 6, 0, 0, 0, (-1)) := by rfl
theorem ft_91_287 : ft_m 91 287 = some (.goto (-152), 290, 135, 0, 0, 0, 0) := by rfl
theorem ft_91_290 : ft_m 91 290 = some (.aload_n 0, 291, 0, 0, 0, 0, 0) := by rfl
theorem ft_91_291 : ft_m 91 291 = some (.invokevirtual 198, 294, 97, 0, 941, 0, 0) := by rfl
theorem ft_91_294 : ft_m 91 294 = some (.istore 5, 296, 5, 0, 0, 0, 0) := by rfl
theorem ft_91_296 : ft_m 91 296 = some (.goto (-170), 299, 126, 0, 0, 0, 0) := by rfl
theorem ft_91_299 : ft_m 91 299 = some (.aload_n 0, 300, 0, 0, 0, 0, 0) := by rfl
theorem ft_91_300 : ft_m 91 300 = some (.getfield 185, 303, 8, 25, 756, 0, 0) := by rfl
theorem ft_91_303 : ft_m 91 303 = some (.ifCond .ne 5, 306, 308, 0, 0, 0, 0) := by rfl
theorem ft_91_306 : ft_m 91 306 = some (.iconst (-1), 307, 0, 0, 0, 0, (-1)) := by rfl
theorem ft_91_307 : ft_m 91 307 = some (.ireturn, 308, 0, 0, 0, 0, 0) := by rfl
theorem ft_91_308 : ft_m 91 308 = some (.iconst 0, 309, 0, 0, 0, 0, nI 0) := by rfl
theorem ft_91_309 : ft_m 91 309 = some (.istore 6, 311, 6, 0, 0, 0, 0) := by rfl
theorem ft_91_311 : ft_m 91 311 = some (.iload 6, 313, 6, 0, 0, 0, 0) := by rfl
theorem ft_91_313 : ft_m 91 313 = some (.aload_n 0, 314, 0, 0, 0, 0, 0) := by rfl
theorem ft_91_314 : ft_m 91 314 = some (.getfield 66, 317, 8, 0, 732, 0, 0) := by rfl
theorem ft_91_317 : ft_m 91 317 = some (.if_icmp .ge 48, 320, 365, 0, 0, 0, 0) := by rfl
theorem ft_91_320 : ft_m 91 320 = some (.aload_n 0, 321, 0, 0, 0, 0, 0) := by rfl
theorem ft_91_321 : ft_m 91 321 = some (.getfield 24, 324, 8, 10, 742, 0, 0) := by rfl
theorem ft_91_324 : ft_m 91 324 = some (.iload 6, 326, 6, 0, 0, 0, 0) := by rfl
theorem ft_91_326 : ft_m 91 326 = some (.aload_n 0, 327, 0, 0, 0, 0, 0) := by rfl
theorem ft_91_327 : ft_m 91 327 = some (.getfield 21, 330, 8, 9, 741, 0, 0) := by rfl
theorem ft_91_330 : ft_m 91 330 = some (.bipush 9, 332, 0, 0, 0, 0, nI 9) := by rfl
theorem ft_91_332 : ft_m 91 332 = some (.iload 6, 334, 6, 0, 0, 0, 0) := by rfl
theorem ft_91_334 : ft_m 91 334 = some (.imul, 335, 0, 0, 0, 0, 0) := by rfl
theorem ft_91_335 : ft_m 91 335 = some (.laload, 336, 0, 0, 0, 0, 0) := by rfl
theorem ft_91_336 : ft_m 91 336 = some (.l2i, 337, 0, 0, 0, 0, 0) := by rfl
theorem ft_91_337 : ft_m 91 337 = some (.iastore, 338, 0, 0, 0, 0, 0) := by rfl
theorem ft_91_338 : ft_m 91 338 = some (.aload_n 0, 339, 0, 0, 0, 0, 0) := by rfl
theorem ft_91_339 : ft_m 91 339 = some (.getfield 54, 342, 8, 28, 759, 0, 0) := by rfl
theorem ft_91_342 : ft_m 91 342 = some (.iload 6, 344, 6, 0, 0, 0, 0) := by rfl
theorem ft_91_344 : ft_m 91 344 = some (.aload_n 0, 345, 0, 0, 0, 0, 0) := by rfl
theorem ft_91_345 : ft_m 91 345 = some (.getfield 21, 348, 8, 9, 741, 0, 0) := by rfl
theorem ft_91_348 : ft_m 91 348 = some (.bipush 9, 350, 0, 0, 0, 0, nI 9) := by rfl
theorem ft_91_350 : ft_m 91 350 = some (.iload 6, 352, 6, 0, 0, 0, 0) := by rfl
theorem ft_91_352 : ft_m 91 352 = some (.imul, 353, 0, 0, 0, 0, 0) := by rfl
theorem ft_91_353 : ft_m 91 353 = some (.bipush 6, 355, 0, 0, 0, 0, nI 6) := by rfl
theorem ft_91_355 : ft_m 91 355 = some (.iadd, 356, 0, 0, 0, 0, 0) := by rfl
theorem ft_91_356 : ft_m 91 356 = some (.laload, 357, 0, 0, 0, 0, 0) := by rfl
theorem ft_91_357 : ft_m 91 357 = some (.l2i, 358, 0, 0, 0, 0, 0) := by rfl
theorem ft_91_358 : ft_m 91 358 = some (.iastore, 359, 0, 0, 0, 0, 0) := by rfl
theorem ft_91_359 : ft_m 91 359 = some (.iinc 6 1, 362, 6, 0, 0, 0, nI 1) := by rfl
theorem ft_91_362 : ft_m 91 362 = some (.goto (-51), 365, 311, 0, 0, 0, 0) := by rfl
theorem ft_91_365 : ft_m 91 365 = some (.aload_n 0, 366, 0, 0, 0, 0, 0) := by rfl
theorem ft_91_366 : ft_m 91 366 = some (.iconst 1, 367, 0, 0, 0, 0, nI 1) := by rfl
theorem ft_91_367 : ft_m 91 367 = some (.putfield 78, 370, 8, 4, 736, 0, 0) := by rfl
theorem ft_91_370 : ft_m 91 370 = some (.aload_n 0, 371, 0, 0, 0, 0, 0) := by rfl
theorem ft_91_371 : ft_m 91 371 = some (.iload_n 1, 372, 1, 0, 0, 0, 0) := by rfl
theorem ft_91_372 : ft_m 91 372 = some (.putfield 202, 375, 8, 5, 737, 0, 0) := by rfl
theorem ft_91_375 : ft_m 91 375 = some (.aload_n 0, 376, 0, 0, 0, 0, 0) := by rfl
theorem ft_91_376 : ft_m 91 376 = some (.iload_n 2, 377, 2, 0, 0, 0, 0) := by rfl
theorem ft_91_377 : ft_m 91 377 = some (.putfield 205, 380, 8, 6, 738, 0, 0) := by rfl
theorem ft_91_380 : ft_m 91 380 = some (.aload_n 0, 381, 0, 0, 0, 0, 0) := by rfl
theorem ft_91_381 : ft_m 91 381 = some (.iload_n 3, 382, 3, 0, 0, 0, 0) := by rfl
theorem ft_91_382 : ft_m 91 382 = some (.putfield 208, 385, 8, 27, 758, 0, 0) := by rfl
theorem ft_91_385 : ft_m 91 385 = some (.aload_n 0, 386, 0, 0, 0, 0, 0) := by rfl
theorem ft_91_386 : ft_m 91 386 = some (.invokevirtual 211, 389, 98, 0, 945, 0, 0) := by rfl
theorem ft_91_389 : ft_m 91 389 = some (.aload_n 0, 390, 0, 0, 0, 0, 0) := by rfl
theorem ft_91_390 : ft_m 91 390 = some (.getfield 192, 393, 8, 26, 757, 0, 0) := by rfl
theorem ft_91_393 : ft_m 91 393 = some (.ireturn, 394, 0, 0, 0, 0, 0) := by rfl
theorem ft_92_0 : ft_m 92 0 = some (.iload_n 2, 1, 2, 0, 0, 0, 0) := by rfl
theorem ft_92_1 : ft_m 92 1 = some (.iconst 1, 2, 0, 0, 0, 0, nI 1) := by rfl
theorem ft_92_2 : ft_m 92 2 = some (.isub, 3, 0, 0, 0, 0, 0) := by rfl
theorem ft_92_3 : ft_m 92 3 = some (.iload 4, 5, 4, 0, 0, 0, 0) := by rfl
theorem ft_92_5 : ft_m 92 5 = some (.iadd, 6, 0, 0, 0, 0, 0) := by rfl
theorem ft_92_6 : ft_m 92 6 = some (.iload_n 1, 7, 1, 0, 0, 0, 0) := by rfl
theorem ft_92_7 : ft_m 92 7 = some (.iconst 1, 8, 0, 0, 0, 0, nI 1) := by rfl
theorem ft_92_8 : ft_m 92 8 = some (.isub, 9, 0, 0, 0, 0, 0) := by rfl
theorem ft_92_9 : ft_m 92 9 = some (.if_icmp .lt 5, 12, 14, 0, 0, 0, 0) := by rfl
theorem ft_92_12 : ft_m 92 12 = some (.iconst 0, 13, 0, 0, 0, 0, nI 0) := by rfl
theorem ft_92_13 : ft_m 92 13 = some (.ireturn, 14, 0, 0, 0, 0, 0) := by rfl
theorem ft_92_14 : ft_m 92 14 = some (.lconst 1, 15, 0, 0, 0, 1, 0) := by rfl
theorem ft_92_15 : ft_m 92 15 = some (.iload_n 2, 16, 2, 0, 0, 0, 0) := by rfl
theorem ft_92_16 : ft_m 92 16 = some (.iconst 1, 17, 0, 0, 0, 0, nI 1) := by rfl
theorem ft_92_17 : ft_m 92 17 = some (.isub, 18, 0, 0, 0, 0, 0) := by rfl
theorem ft_92_18 : ft_m 92 18 = some (.iload 4, 20, 4, 0, 0, 0, 0) := by rfl
theorem ft_92_20 : ft_m 92 20 = some (.iadd, 21, 0, 0, 0, 0, 0) := by rfl
theorem ft_92_21 : ft_m 92 21 = some (.lshl, 22, 0, 0, 0, 0, 0) := by rfl
theorem ft_92_22 : ft_m 92 22 = some (.lstore 5, 24, 5, 0, 0, 0, 0) := by rfl
theorem ft_92_24 : ft_m 92 24 = some (.lconst 0, 25, 0, 0, 0, 0, 0) := by rfl
theorem ft_92_25 : ft_m 92 25 = some (.lstore 7, 27, 7, 0, 0, 0, 0) := by rfl
theorem ft_92_27 : ft_m 92 27 = some (.aload_n 0, 28, 0, 0, 0, 0, 0) := by rfl
theorem ft_92_28 : ft_m 92 28 = some (.iload 4, 30, 4, 0, 0, 0, 0) := by rfl
theorem ft_92_30 : ft_m 92 30 = some (.putfield 167, 33, 8, 24, 755, 0, 0) := by rfl
theorem ft_92_33 : ft_m 92 33 = some (.iconst 0, 34, 0, 0, 0, 0, nI 0) := by rfl
theorem ft_92_34 : ft_m 92 34 = some (.istore 9, 36, 9, 0, 0, 0, 0) := by rfl
theorem ft_92_36 : ft_m 92 36 = some (.iload 9, 38, 9, 0, 0, 0, 0) := by rfl
theorem ft_92_38 : ft_m 92 38 = some (.aload_n 0, 39, 0, 0, 0, 0, 0) := by rfl
theorem ft_92_39 : ft_m 92 39 = some (.getfield 66, 42, 8, 0, 732, 0, 0) := by rfl
theorem ft_92_42 : ft_m 92 42 = some (.if_icmp .ge 257, 45, 299, 0, 0, 0, 0) := by rfl
theorem ft_92_45 : ft_m 92 45 = some (.aload_n 0, 46, 0, 0, 0, 0, 0) := by rfl
theorem ft_92_46 : ft_m 92 46 = some (.getfield 48, 49, 8, 22, 753, 0, 0) := by rfl
theorem ft_92_49 : ft_m 92 49 = some (.iload 9, 51, 9, 0, 0, 0, 0) := by rfl
theorem ft_92_51 : ft_m 92 51 = some (.iaload, 52, 0, 0, 0, 0, 0) := by rfl
theorem ft_92_52 : ft_m 92 52 = some (.istore 10, 54, 10, 0, 0, 0, 0) := by rfl
theorem ft_92_54 : ft_m 92 54 = some (.aload_n 0, 55, 0, 0, 0, 0, 0) := by rfl
theorem ft_92_55 : ft_m 92 55 = some (.iload 10, 57, 10, 0, 0, 0, 0) := by rfl
theorem ft_92_57 : ft_m 92 57 = some (.lload 5, 59, 5, 0, 0, 0, 0) := by rfl
theorem ft_92_59 : ft_m 92 59 = some (.lload 7, 61, 7, 0, 0, 0, 0) := by rfl
theorem ft_92_61 : ft_m 92 61 = some (.aload_n 0, 62, 0, 0, 0, 0, 0) := by rfl
theorem ft_92_62 : ft_m 92 62 = some (.getfield 17, 65, 8, 3, 735, 0, 0) := by rfl
theorem ft_92_65 : ft_m 92 65 = some (.iconst 5, 66, 0, 0, 0, 0, nI 5) := by rfl
theorem ft_92_66 : ft_m 92 66 = some (.iload 10, 68, 10, 0, 0, 0, 0) := by rfl
theorem ft_92_68 : ft_m 92 68 = some (.imul, 69, 0, 0, 0, 0, 0) := by rfl
theorem ft_92_69 : ft_m 92 69 = some (.iconst 4, 70, 0, 0, 0, 0, nI 4) := by rfl
theorem ft_92_70 : ft_m 92 70 = some (.iadd, 71, 0, 0, 0, 0, 0) := by rfl
theorem ft_92_71 : ft_m 92 71 = some (.laload, 72, 0, 0, 0, 0, 0) := by rfl
theorem ft_92_72 : ft_m 92 72 = some (.aload_n 0, 73, 0, 0, 0, 0, 0) := by rfl
theorem ft_92_73 : ft_m 92 73 = some (.getfield 17, 76, 8, 3, 735, 0, 0) := by rfl
theorem ft_92_76 : ft_m 92 76 = some (.iconst 5, 77, 0, 0, 0, 0, nI 5) := by rfl
theorem ft_92_77 : ft_m 92 77 = some (.iload 10, 79, 10, 0, 0, 0, 0) := by rfl
theorem ft_92_79 : ft_m 92 79 = some (.imul, 80, 0, 0, 0, 0, 0) := by rfl
theorem ft_92_80 : ft_m 92 80 = some (.iconst 3, 81, 0, 0, 0, 0, nI 3) := by rfl
theorem ft_92_81 : ft_m 92 81 = some (.iadd, 82, 0, 0, 0, 0, 0) := by rfl
theorem ft_92_82 : ft_m 92 82 = some (.laload, 83, 0, 0, 0, 0, 0) := by rfl
theorem ft_92_83 : ft_m 92 83 = some (.iload_n 3, 84, 3, 0, 0, 0, 0) := by rfl
theorem ft_92_84 : ft_m 92 84 = some (.invokevirtual 170, 87, 93, 0, 922, 0, 0) := by rfl
theorem ft_92_87 : ft_m 92 87 = some (.ifCond .ne 5, 90, 92, 0, 0, 0, 0) := by rfl
theorem ft_92_90 : ft_m 92 90 = some (.iconst 0, 91, 0, 0, 0, 0, nI 0) := by rfl
theorem ft_92_91 : ft_m 92 91 = some (.ireturn, 92, 0, 0, 0, 0, 0) := by rfl
theorem ft_92_92 : ft_m 92 92 = some (.aload_n 0, 93, 0, 0, 0, 0, 0) := by rfl
theorem ft_92_93 : ft_m 92 93 = some (.getfield 151, 96, 8, 19, 751, 0, 0) := by rfl
theorem ft_92_96 : ft_m 92 96 = some (.lstore 11, 98, 11, 0, 0, 0, 0) := by rfl
theorem ft_92_98 : ft_m 92 98 = some (.aload_n 0, 99, 0, 0, 0, 0, 0) := by rfl
theorem ft_92_99 : ft_m 92 99 = some (.getfield 157, 102, 8, 20, 752, 0, 0) := by rfl
theorem ft_92_102 : ft_m 92 102 = some (.lstore 13, 104, 13, 0, 0, 0, 0) := by rfl
theorem ft_92_104 : ft_m 92 104 = some (.iconst 0, 105, 0, 0, 0, 0, nI 0) := by rfl
theorem ft_92_105 : ft_m 92 105 = some (.istore 15, 107, 15, 0, 0, 0, 0) := by rfl
theorem ft_92_107 : ft_m 92 107 = some (.iload 15, 109, 15, 0, 0, 0, 0) := by rfl
theorem ft_92_109 : ft_m 92 109 = some (.bipush 13, 111, 0, 0, 0, 0, nI 13) := by rfl
theorem ft_92_111 : ft_m 92 111 = some (.if_icmp .ge 45, 114, 156, 0, 0, 0, 0) := by rfl
theorem ft_92_114 : ft_m 92 114 = some (.aload_n 0, 115, 0, 0, 0, 0, 0) := by rfl
theorem ft_92_115 : ft_m 92 115 = some (.getfield 151, 118, 8, 19, 751, 0, 0) := by rfl
theorem ft_92_118 : ft_m 92 118 = some (.aload_n 0, 119, 0, 0, 0, 0, 0) := by rfl
theorem ft_92_119 : ft_m 92 119 = some (.getfield 157, 122, 8, 20, 752, 0, 0) := by rfl
theorem ft_92_122 : ft_m 92 122 = some (.ladd, 123, 0, 0, 0, 0, 0) := by rfl
theorem ft_92_123 : ft_m 92 123 = some (.lconst 1, 124, 0, 0, 0, 1, 0) := by rfl
theorem ft_92_124 : ft_m 92 124 = some (.iload_n 1, 125, 1, 0, 0, 0, 0) := by rfl
theorem ft_92_125 : ft_m 92 125 = some (.iconst 1, 126, 0, 0, 0, 0, nI 1) := by rfl
theorem ft_92_126 : ft_m 92 126 = some (.isub, 127, 0, 0, 0, 0, 0) := by rfl
theorem ft_92_127 : ft_m 92 127 = some (.lshl, 128, 0, 0, 0, 0, 0) := by rfl
theorem ft_92_128 : ft_m 92 128 = some (.lcmp, 129, 0, 0, 0, 0, 0) := by rfl
theorem ft_92_129 : ft_m 92 129 = some (.ifCond .lt 27, 132, 156, 0, 0, 0, 0) := by rfl
theorem ft_92_132 : ft_m 92 132 = some (.iinc 15 1, 135, 15, 0, 0, 0, nI 1) := by rfl
theorem ft_92_135 : ft_m 92 135 = some (.aload_n 0, 136, 0, 0, 0, 0, 0) := by rfl
theorem ft_92_136 : ft_m 92 136 = some (.lload 11, 138, 11, 0, 0, 0, 0) := by rfl
theorem ft_92_138 : ft_m 92 138 = some (.putfield 151, 141, 8, 19, 751, 0, 0) := by rfl
theorem ft_92_141 : ft_m 92 141 = some (.aload_n 0, 142, 0, 0, 0, 0, 0) := by rfl
theorem ft_92_142 : ft_m 92 142 = some (.lload 13, 144, 13, 0, 0, 0, 0) := by rfl
theorem ft_92_144 : ft_m 92 144 = some (.putfield 157, 147, 8, 20, 752, 0, 0) := by rfl
theorem ft_92_147 : ft_m 92 147 = some (.aload_n 0, 148, 0, 0, 0, 0, 0) := by rfl
theorem ft_92_148 : ft_m 92 148 = some (.iload 15, 150, 15, 0, 0, 0, 0) := by rfl
theorem ft_92_150 : ft_m 92 150 = some (.invokevirtual 174, 153, 96, 0, 937, 0, 0) := by rfl
theorem ft_92_153 : ft_m 92 153 = some (.goto (-46), 156, 107, 0, 0, 0, 0) := by rfl
theorem ft_92_156 : ft_m 92 156 = some (.iload 15, 158, 15, 0, 0, 0, 0) := by rfl
theorem ft_92_158 : ft_m 92 158 = some (.bipush 13, 160, 0, 0, 0, 0, nI 13) := by rfl
theorem ft_92_160 : ft_m 92 160 = some (.if_icmp .ne 5, 163, 165, 0, 0, 0, 0) := by rfl
theorem ft_92_163 : ft_m 92 163 = some (.iconst 0, 164, 0, 0, 0, 0, nI 0) := by rfl
theorem ft_92_164 : ft_m 92 164 = some (.ireturn, 165, 0, 0, 0, 0, 0) := by rfl
theorem ft_92_165 : ft_m 92 165 = some (.aload_n 0, 166, 0, 0, 0, 0, 0) := by rfl
theorem ft_92_166 : ft_m 92 166 = some (.dup, 167, 0, 0, 0, 0, 0) := by rfl
theorem ft_92_167 : ft_m 92 167 = some (.getfield 167, 170, 8, 24, 755, 0, 0) := by rfl
theorem ft_92_170 : ft_m 92 170 = some (.iload 15, 172, 15, 0, 0, 0, 0) := by rfl
theorem ft_92_172 : ft_m 92 172 = some (.isub, 173, 0, 0, 0, 0, 0) := by rfl
theorem ft_92_173 : ft_m 92 173 = some (.putfield 167, 176, 8, 24, 755, 0, 0) := by rfl
theorem ft_92_176 : ft_m 92 176 = some (.aload_n 0, 177, 0, 0, 0, 0, 0) := by rfl
theorem ft_92_177 : ft_m 92 177 = some (.getfield 51, 180, 8, 23, 754, 0, 0) := by rfl
theorem ft_92_180 : ft_m 92 180 = some (.bipush 9, 182, 0, 0, 0, 0, nI 9) := by rfl
theorem ft_92_182 : ft_m 92 182 = some (.iload 9, 184, 9, 0, 0, 0, 0) := by rfl
theorem ft_92_184 : ft_m 92 184 = some (.imul, 185, 0, 0, 0, 0, 0) := by rfl
theorem ft_92_185 : ft_m 92 185 = some (.iload 10, 187, 10, 0, 0, 0, 0) := by rfl
theorem ft_92_187 : ft_m 92 187 = some (.i2l, 188, 0, 0, 0, 0, 0) := by rfl
theorem ft_92_188 : ft_m 92 188 = some (.lastore, 189, 0, 0, 0, 0, 0) := by rfl
theorem ft_92_189 : ft_m 92 189 = some (.iconst 0, 190, 0, 0, 0, 0, nI 0) := by rfl
theorem ft_92_190 : ft_m 92 190 = some (.istore 16, 192, 16, 0, 0, 0, 0) := by rfl
theorem ft_92_192 : ft_m 92 192 = some (.iload 16, 194, 16, 0, 0, 0, 0) := by rfl
theorem ft_92_194 : ft_m 92 194 = some (.iconst 5, 195, 0, 0, 0, 0, nI 5) := by rfl
theorem ft_92_195 : ft_m 92 195 = some (.if_icmp .ge 36, 198, 231, 0, 0, 0, 0) := by rfl
theorem ft_92_198 : ft_m 92 198 = some (.aload_n 0, 199, 0, 0, 0, 0, 0) := by rfl
theorem ft_92_199 : ft_m 92 199 = some (.getfield 51, 202, 8, 23, 754, 0, 0) := by rfl
theorem ft_92_202 : ft_m 92 202 = some (.bipush 9, 204, 0, 0, 0, 0, nI 9) := by rfl
theorem ft_92_204 : ft_m 92 204 = some (.iload 9, 206, 9, 0, 0, 0, 0) := by rfl
theorem ft_92_206 : ft_m 92 206 = some (.imul, 207, 0, 0, 0, 0, 0) := by rfl
theorem ft_92_207 : ft_m 92 207 = some (.iconst 1, 208, 0, 0, 0, 0, nI 1) := by rfl
theorem ft_92_208 : ft_m 92 208 = some (.iadd, 209, 0, 0, 0, 0, 0) := by rfl
theorem ft_92_209 : ft_m 92 209 = some (.iload 16, 211, 16, 0, 0, 0, 0) := by rfl
theorem ft_92_211 : ft_m 92 211 = some (.iadd, 212, 0, 0, 0, 0, 0) := by rfl
theorem ft_92_212 : ft_m 92 212 = some (.aload_n 0, 213, 0, 0, 0, 0, 0) := by rfl
theorem ft_92_213 : ft_m 92 213 = some (.getfield 17, 216, 8, 3, 735, 0, 0) := by rfl
theorem ft_92_216 : ft_m 92 216 = some (.iconst 5, 217, 0, 0, 0, 0, nI 5) := by rfl
theorem ft_92_217 : ft_m 92 217 = some (.iload 10, 219, 10, 0, 0, 0, 0) := by rfl
theorem ft_92_219 : ft_m 92 219 = some (.imul, 220, 0, 0, 0, 0, 0) := by rfl
theorem ft_92_220 : ft_m 92 220 = some (.iload 16, 222, 16, 0, 0, 0, 0) := by rfl
theorem ft_92_222 : ft_m 92 222 = some (.iadd, 223, 0, 0, 0, 0, 0) := by rfl
theorem ft_92_223 : ft_m 92 223 = some (.laload, 224, 0, 0, 0, 0, 0) := by rfl
theorem ft_92_224 : ft_m 92 224 = some (.lastore, 225, 0, 0, 0, 0, 0) := by rfl
theorem ft_92_225 : ft_m 92 225 = some (.iinc 16 1, 228, 16, 0, 0, 0, nI 1) := by rfl
theorem ft_92_228 : ft_m 92 228 = some (.goto (-36), 231, 192, 0, 0, 0, 0) := by rfl
theorem ft_92_231 : ft_m 92 231 = some (.aload_n 0, 232, 0, 0, 0, 0, 0) := by rfl
theorem ft_92_232 : ft_m 92 232 = some (.getfield 51, 235, 8, 23, 754, 0, 0) := by rfl
theorem ft_92_235 : ft_m 92 235 = some (.bipush 9, 237, 0, 0, 0, 0, nI 9) := by rfl
theorem ft_92_237 : ft_m 92 237 = some (.iload 9, 239, 9, 0, 0, 0, 0) := by rfl
theorem ft_92_239 : ft_m 92 239 = some (.imul, 240, 0, 0, 0, 0, 0) := by rfl
theorem ft_92_240 : ft_m 92 240 = some (.bipush 6, 242, 0, 0, 0, 0, nI 6) := by rfl
theorem ft_92_242 : ft_m 92 242 = some (.iadd, 243, 0, 0, 0, 0, 0) := by rfl
theorem ft_92_243 : ft_m 92 243 = some (.iload 15, 245, 15, 0, 0, 0, 0) := by rfl
theorem ft_92_245 : ft_m 92 245 = some (.i2l, 246, 0, 0, 0, 0, 0) := by rfl
theorem ft_92_246 : ft_m 92 246 = some (.lastore, 247, 0, 0, 0, 0, 0) := by rfl
theorem ft_92_247 : ft_m 92 247 = some (.aload_n 0, 248, 0, 0, 0, 0, 0) := by rfl
theorem ft_92_248 : ft_m 92 248 = some (.getfield 51, 251, 8, 23, 754, 0, 0) := by rfl
theorem ft_92_251 : ft_m 92 251 = some (.bipush 9, 253, 0, 0, 0, 0, nI 9) := by rfl
theorem ft_92_253 : ft_m 92 253 = some (.iload 9, 255, 9, 0, 0, 0, 0) := by rfl
theorem ft_92_255 : ft_m 92 255 = some (.imul, 256, 0, 0, 0, 0, 0) := by rfl
theorem ft_92_256 : ft_m 92 256 = some (.bipush 7, 258, 0, 0, 0, 0, nI 7) := by rfl
theorem ft_92_258 : ft_m 92 258 = some (.iadd, 259, 0, 0, 0, 0, 0) := by rfl
theorem ft_92_259 : ft_m 92 259 = some (.aload_n 0, 260, 0, 0, 0, 0, 0) := by rfl
theorem ft_92_260 : ft_m 92 260 = some (.getfield 151, 263, 8, 19, 751, 0, 0) := by rfl
theorem ft_92_263 : ft_m 92 263 = some (.lastore, 264, 0, 0, 0, 0, 0) := by rfl
theorem ft_92_264 : ft_m 92 264 = some (.aload_n 0, 265, 0, 0, 0, 0, 0) := by rfl
theorem ft_92_265 : ft_m 92 265 = some (.getfield 51, 268, 8, 23, 754, 0, 0) := by rfl
theorem ft_92_268 : ft_m 92 268 = some (.bipush 9, 270, 0, 0, 0, 0, nI 9) := by rfl
theorem ft_92_270 : ft_m 92 270 = some (.iload 9, 272, 9, 0, 0, 0, 0) := by rfl
theorem ft_92_272 : ft_m 92 272 = some (.imul, 273, 0, 0, 0, 0, 0) := by rfl
theorem ft_92_273 : ft_m 92 273 = some (.bipush 8, 275, 0, 0, 0, 0, nI 8) := by rfl
theorem ft_92_275 : ft_m 92 275 = some (.iadd, 276, 0, 0, 0, 0, 0) := by rfl
theorem ft_92_276 : ft_m 92 276 = some (.aload_n 0, 277, 0, 0, 0, 0, 0) := by rfl
theorem ft_92_277 : ft_m 92 277 = some (.getfield 157, 280, 8, 20, 752, 0, 0) := by rfl
theorem ft_92_280 : ft_m 92 280 = some (.lastore, 281, 0, 0, 0, 0, 0) := by rfl
theorem ft_92_281 : ft_m 92 281 = some (.aload_n 0, 282, 0, 0, 0, 0, 0) := by rfl
theorem ft_92_282 : ft_m 92 282 = some (.getfield 151, 285, 8, 19, 751, 0, 0) := by rfl
theorem ft_92_285 : ft_m 92 285 = some (.lstore 5, 287, 5, 0, 0, 0, 0) := by rfl
theorem ft_92_287 : ft_m 92 287 = some (.aload_n 0, 288, 0, 0, 0, 0, 0) := by rfl
theorem ft_92_288 : ft_m 92 288 = some (.getfield 157, 291, 8, 20, 752, 0, 0) := by rfl
theorem ft_92_291 : ft_m 92 291 = some (.lstore 7, 293, 7, 0, 0, 0, 0) := by rfl
theorem ft_92_293 : ft_m 92 293 = some (.iinc 9 1, 296, 9, 0, 0, 0, nI 1) := by rfl
theorem ft_92_296 : ft_m 92 296 = some (.goto (-260), 299, 36, 0, 0, 0, 0) := by rfl
theorem ft_92_299 : ft_m 92 299 = some (.aload_n 0, 300, 0, 0, 0, 0, 0) := by rfl
theorem ft_92_300 : ft_m 92 300 = some (.getfield 167, 303, 8, 24, 755, 0, 0) := by rfl
theorem ft_92_303 : ft_m 92 303 = some (.ifCond .lt 7, 306, 310, 0, 0, 0, 0) := by rfl
theorem ft_92_306 : ft_m 92 306 = some (.iconst 1, 307, 0, 0, 0, 0, nI 1) := by rfl
theorem ft_92_307 : ft_m 92 307 = some (.goto 4, 310, 311, 0, 0, 0, 0) := by rfl
theorem ft_92_310 : ft_m 92 310 = some (.iconst 0, 311, 0, 0, 0, 0, nI 0) := by rfl
theorem ft_92_311 : ft_m 92 311 = some (.ireturn, 312, 0, 0, 0, 0, 0) := by rfl
theorem ft_93_0 : ft_m 93 0 = some (.lload 6, 2, 6, 0, 0, 0, 0) := by rfl
theorem ft_93_2 : ft_m 93 2 = some (.ldc2_w 129, 5, 0, 0, 870, 65536, 0) := by rfl
theorem ft_93_5 : ft_m 93 5 = some (.invokestatic 110, 8, 80, 0, 858, 0, 0) := by rfl
theorem ft_93_8 : ft_m 93 8 = some (.lstore 11, 10, 11, 0, 0, 0, 0) := by rfl
theorem ft_93_10 : ft_m 93 10 = some (.aload_n 0, 11, 0, 0, 0, 0, 0) := by rfl
theorem ft_93_11 : ft_m 93 11 = some (.lload_n 2, 12, 2, 0, 0, 0, 0) := by rfl
theorem ft_93_12 : ft_m 93 12 = some (.lload 11, 14, 11, 0, 0, 0, 0) := by rfl
theorem ft_93_14 : ft_m 93 14 = some (.invokestatic 148, 17, 94, 0, 926, 0, 0) := by rfl
theorem ft_93_17 : ft_m 93 17 = some (.putfield 151, 20, 8, 19, 751, 0, 0) := by rfl
theorem ft_93_20 : ft_m 93 20 = some (.aload_n 0, 21, 0, 0, 0, 0, 0) := by rfl
theorem ft_93_21 : ft_m 93 21 = some (.lload 4, 23, 4, 0, 0, 0, 0) := by rfl
theorem ft_93_23 : ft_m 93 23 = some (.lload 11, 25, 11, 0, 0, 0, 0) := by rfl
theorem ft_93_25 : ft_m 93 25 = some (.invokestatic 148, 28, 94, 0, 926, 0, 0) := by rfl
theorem ft_93_28 : ft_m 93 28 = some (.lload 8, 30, 8, 0, 0, 0, 0) := by rfl
theorem ft_93_30 : ft_m 93 30 = some (.iload 10, 32, 10, 0, 0, 0, 0) := by rfl
theorem ft_93_32 : ft_m 93 32 = some (.iconst 2, 33, 0, 0, 0, 0, nI 2) := by rfl
theorem ft_93_33 : ft_m 93 33 = some (.if_icmp .ne 9, 36, 42, 0, 0, 0, 0) := by rfl
theorem ft_93_36 : ft_m 93 36 = some (.ldc2_w 155, 39, 0, 0, 930, 8589934592, 0) := by rfl
theorem ft_93_39 : ft_m 93 39 = some (.goto 6, 42, 45, 0, 0, 0, 0) := by rfl
theorem ft_93_42 : ft_m 93 42 = some (.ldc2_w 100, 45, 0, 0, 849, 4294967296, 0) := by rfl
theorem ft_93_45 : ft_m 93 45 = some (.invokestatic 110, 48, 80, 0, 858, 0, 0) := by rfl
theorem ft_93_48 : ft_m 93 48 = some (.ladd, 49, 0, 0, 0, 0, 0) := by rfl
theorem ft_93_49 : ft_m 93 49 = some (.putfield 157, 52, 8, 20, 752, 0, 0) := by rfl
theorem ft_93_52 : ft_m 93 52 = some (.aload_n 0, 53, 0, 0, 0, 0, 0) := by rfl
theorem ft_93_53 : ft_m 93 53 = some (.getfield 151, 56, 8, 19, 751, 0, 0) := by rfl
theorem ft_93_56 : ft_m 93 56 = some (.ldc2_w 108, 59, 0, 0, 857, 70368744177664, 0) := by rfl
theorem ft_93_59 : ft_m 93 59 = some (.lcmp, 60, 0, 0, 0, 0, 0) := by rfl
theorem ft_93_60 : ft_m 93 60 = some (.ifCond .gt 30, 63, 90, 0, 0, 0, 0) := by rfl
theorem ft_93_63 : ft_m 93 63 = some (.aload_n 0, 64, 0, 0, 0, 0, 0) := by rfl
theorem ft_93_64 : ft_m 93 64 = some (.getfield 157, 67, 8, 20, 752, 0, 0) := by rfl
theorem ft_93_67 : ft_m 93 67 = some (.ldc2_w 108, 70, 0, 0, 857, 70368744177664, 0) := by rfl
theorem ft_93_70 : ft_m 93 70 = some (.lcmp, 71, 0, 0, 0, 0, 0) := by rfl
theorem ft_93_71 : ft_m 93 71 = some (.ifCond .gt 19, 74, 90, 0, 0, 0, 0) := by rfl
theorem ft_93_74 : ft_m 93 74 = some (.aload_n 0, 75, 0, 0, 0, 0, 0) := by rfl
theorem ft_93_75 : ft_m 93 75 = some (.getfield 151, 78, 8, 19, 751, 0, 0) := by rfl
theorem ft_93_78 : ft_m 93 78 = some (.aload_n 0, 79, 0, 0, 0, 0, 0) := by rfl
theorem ft_93_79 : ft_m 93 79 = some (.getfield 157, 82, 8, 20, 752, 0, 0) := by rfl
theorem ft_93_82 : ft_m 93 82 = some (.ladd, 83, 0, 0, 0, 0, 0) := by rfl
theorem ft_93_83 : ft_m 93 83 = some (.ldc2_w 108, 86, 0, 0, 857, 70368744177664, 0) := by rfl
theorem ft_93_86 : ft_m 93 86 = some (.lcmp, 87, 0, 0, 0, 0, 0) := by rfl
theorem ft_93_87 : ft_m 93 87 = some (.ifCond .le 5, 90, 92, 0, 0, 0, 0) := by rfl
theorem ft_93_90 : ft_m 93 90 = some (.iconst 0, 91, 0, 0, 0, 0, nI 0) := by rfl
theorem ft_93_91 : ft_m 93 91 = some (.ireturn, 92, 0, 0, 0, 0, 0) := by rfl
theorem ft_93_92 : ft_m 93 92 = some (.ldc2_w 160, 95, 0, 0, 931, 4611686018427387904, 0) := by rfl
theorem ft_93_95 : ft_m 93 95 = some (.lstore 13, 97, 13, 0, 0, 0, 0) := by rfl
theorem ft_93_97 : ft_m 93 97 = some (.aload_n 0, 98, 0, 0, 0, 0, 0) := by rfl
theorem ft_93_98 : ft_m 93 98 = some (.iload_n 1, 99, 1, 0, 0, 0, 0) := by rfl
theorem ft_93_99 : ft_m 93 99 = some (.invokevirtual 133, 102, 83, 0, 872, 0, 0) := by rfl
theorem ft_93_102 : ft_m 93 102 = some (.lload_n 2, 103, 2, 0, 0, 0, 0) := by rfl
theorem ft_93_103 : ft_m 93 103 = some (.lload 4, 105, 4, 0, 0, 0, 0) := by rfl
theorem ft_93_105 : ft_m 93 105 = some (.ladd, 106, 0, 0, 0, 0, 0) := by rfl
theorem ft_93_106 : ft_m 93 106 = some (.lmul, 107, 0, 0, 0, 0, 0) := by rfl
theorem ft_93_107 : ft_m 93 107 = some (.lstore 15, 109, 15, 0, 0, 0, 0) := by rfl
theorem ft_93_109 : ft_m 93 109 = some (.aload_n 0, 110, 0, 0, 0, 0, 0) := by rfl
theorem ft_93_110 : ft_m 93 110 = some (.iload_n 1, 111, 1, 0, 0, 0, 0) := by rfl
theorem ft_93_111 : ft_m 93 111 = some (.invokevirtual 162, 114, 95, 0, 932, 0, 0) := by rfl
theorem ft_93_114 : ft_m 93 114 = some (.aload_n 0, 115, 0, 0, 0, 0, 0) := by rfl
theorem ft_93_115 : ft_m 93 115 = some (.getfield 151, 118, 8, 19, 751, 0, 0) := by rfl
theorem ft_93_118 : ft_m 93 118 = some (.aload_n 0, 119, 0, 0, 0, 0, 0) := by rfl
theorem ft_93_119 : ft_m 93 119 = some (.getfield 157, 122, 8, 20, 752, 0, 0) := by rfl
theorem ft_93_122 : ft_m 93 122 = some (.ladd, 123, 0, 0, 0, 0, 0) := by rfl
theorem ft_93_123 : ft_m 93 123 = some (.lmul, 124, 0, 0, 0, 0, 0) := by rfl
theorem ft_93_124 : ft_m 93 124 = some (.lstore 17, 126, 17, 0, 0, 0, 0) := by rfl
theorem ft_93_126 : ft_m 93 126 = some (.lload 15, 128, 15, 0, 0, 0, 0) := by rfl
theorem ft_93_128 : ft_m 93 128 = some (.lload 13, 130, 13, 0, 0, 0, 0) := by rfl
theorem ft_93_130 : ft_m 93 130 = some (.lcmp, 131, 0, 0, 0, 0, 0) := by rfl
theorem ft_93_131 : ft_m 93 131 = some (.ifCond .gt 30, 134, 161, 0, 0, 0, 0) := by rfl
theorem ft_93_134 : ft_m 93 134 = some (.lload 17, 136, 17, 0, 0, 0, 0) := by rfl
theorem ft_93_136 : ft_m 93 136 = some (.lload 13, 138, 13, 0, 0, 0, 0) := by rfl
theorem ft_93_138 : ft_m 93 138 = some (.lcmp, 139, 0, 0, 0, 0, 0) := by rfl
theorem ft_93_139 : ft_m 93 139 = some (.ifCond .gt 22, 142, 161, 0, 0, 0, 0) := by rfl
theorem ft_93_142 : ft_m 93 142 = some (.lload 15, 144, 15, 0, 0, 0, 0) := by rfl
theorem ft_93_144 : ft_m 93 144 = some (.lload 13, 146, 13, 0, 0, 0, 0) := by rfl
theorem ft_93_146 : ft_m 93 146 = some (.lload 17, 148, 17, 0, 0, 0, 0) := by rfl
theorem ft_93_148 : ft_m 93 148 = some (.lsub, 149, 0, 0, 0, 0, 0) := by rfl
theorem ft_93_149 : ft_m 93 149 = some (.ldc2_w 165, 152, 0, 0, 936, 32768, 0) := by rfl
theorem ft_93_152 : ft_m 93 152 = some (.lsub, 153, 0, 0, 0, 0, 0) := by rfl
theorem ft_93_153 : ft_m 93 153 = some (.lcmp, 154, 0, 0, 0, 0, 0) := by rfl
theorem ft_93_154 : ft_m 93 154 = some (.ifCond .gt 7, 157, 161, 0, 0, 0, 0) := by rfl
theorem ft_93_157 : ft_m 93 157 = some (.iconst 1, 158, 0, 0, 0, 0, nI 1) := by rfl
theorem ft_93_158 : ft_m 93 158 = some (.goto 4, 161, 162, 0, 0, 0, 0) := by rfl
theorem ft_93_161 : ft_m 93 161 = some (.iconst 0, 162, 0, 0, 0, 0, nI 0) := by rfl
theorem ft_93_162 : ft_m 93 162 = some (.ireturn, 163, 0, 0, 0, 0, 0) := by rfl
theorem ft_94_0 : ft_m 94 0 = some (.lload_n 0, 1, 0, 0, 0, 0, 0) := by rfl
theorem ft_94_1 : ft_m 94 1 = some (.lload_n 2, 2, 2, 0, 0, 0, 0) := by rfl
theorem ft_94_2 : ft_m 94 2 = some (.bipush 16, 4, 0, 0, 0, 0, nI 16) := by rfl
theorem ft_94_4 : ft_m 94 4 = some (.lshr, 5, 0, 0, 0, 0, 0) := by rfl
theorem ft_94_5 : ft_m 94 5 = some (.lmul, 6, 0, 0, 0, 0, 0) := by rfl
theorem ft_94_6 : ft_m 94 6 = some (.lload_n 0, 7, 0, 0, 0, 0, 0) := by rfl
theorem ft_94_7 : ft_m 94 7 = some (.lload_n 2, 8, 2, 0, 0, 0, 0) := by rfl
theorem ft_94_8 : ft_m 94 8 = some (.ldc2_w 146, 11, 0, 0, 929, 65535, 0) := by rfl
theorem ft_94_11 : ft_m 94 11 = some (.land, 12, 0, 0, 0, 0, 0) := by rfl
theorem ft_94_12 : ft_m 94 12 = some (.lmul, 13, 0, 0, 0, 0, 0) := by rfl
theorem ft_94_13 : ft_m 94 13 = some (.ldc2_w 129, 16, 0, 0, 870, 65536, 0) := by rfl
theorem ft_94_16 : ft_m 94 16 = some (.invokestatic 110, 19, 80, 0, 858, 0, 0) := by rfl
theorem ft_94_19 : ft_m 94 19 = some (.ladd, 20, 0, 0, 0, 0, 0) := by rfl
theorem ft_94_20 : ft_m 94 20 = some (.lreturn, 21, 0, 0, 0, 0, 0) := by rfl
theorem ft_95_0 : ft_m 95 0 = some (.aload_n 0, 1, 0, 0, 0, 0, 0) := by rfl
theorem ft_95_1 : ft_m 95 1 = some (.getfield 7, 4, 8, 1, 733, 0, 0) := by rfl
theorem ft_95_4 : ft_m 95 4 = some (.iconst 5, 5, 0, 0, 0, 0, nI 5) := by rfl
theorem ft_95_5 : ft_m 95 5 = some (.iload_n 1, 6, 1, 0, 0, 0, 0) := by rfl
theorem ft_95_6 : ft_m 95 6 = some (.imul, 7, 0, 0, 0, 0, 0) := by rfl
theorem ft_95_7 : ft_m 95 7 = some (.iconst 3, 8, 0, 0, 0, 0, nI 3) := by rfl
theorem ft_95_8 : ft_m 95 8 = some (.iadd, 9, 0, 0, 0, 0, 0) := by rfl
theorem ft_95_9 : ft_m 95 9 = some (.iaload, 10, 0, 0, 0, 0, 0) := by rfl
theorem ft_95_10 : ft_m 95 10 = some (.i2l, 11, 0, 0, 0, 0, 0) := by rfl
theorem ft_95_11 : ft_m 95 11 = some (.invokestatic 96, 14, 79, 0, 854, 0, 0) := by rfl
theorem ft_95_14 : ft_m 95 14 = some (.aload_n 0, 15, 0, 0, 0, 0, 0) := by rfl
theorem ft_95_15 : ft_m 95 15 = some (.getfield 7, 18, 8, 1, 733, 0, 0) := by rfl
theorem ft_95_18 : ft_m 95 18 = some (.iconst 5, 19, 0, 0, 0, 0, nI 5) := by rfl
theorem ft_95_19 : ft_m 95 19 = some (.iload_n 1, 20, 1, 0, 0, 0, 0) := by rfl
theorem ft_95_20 : ft_m 95 20 = some (.imul, 21, 0, 0, 0, 0, 0) := by rfl
theorem ft_95_21 : ft_m 95 21 = some (.iconst 4, 22, 0, 0, 0, 0, nI 4) := by rfl
theorem ft_95_22 : ft_m 95 22 = some (.iadd, 23, 0, 0, 0, 0, 0) := by rfl
theorem ft_95_23 : ft_m 95 23 = some (.iaload, 24, 0, 0, 0, 0, 0) := by rfl
theorem ft_95_24 : ft_m 95 24 = some (.i2l, 25, 0, 0, 0, 0, 0) := by rfl
theorem ft_95_25 : ft_m 95 25 = some (.invokestatic 96, 28, 79, 0, 854, 0, 0) := by rfl
theorem ft_95_28 : ft_m 95 28 = some (.ladd, 29, 0, 0, 0, 0, 0) := by rfl
theorem ft_95_29 : ft_m 95 29 = some (.lreturn, 30, 0, 0, 0, 0, 0) := by rfl
theorem ft_96_0 : ft_m 96 0 = some (.lconst 1, 1, 0, 0, 0, 1, 0) := by rfl
theorem ft_96_1 : ft_m 96 1 = some (.iload_n 1, 2, 1, 0, 0, 0, 0) := by rfl
theorem ft_96_2 : ft_m 96 2 = some (.lshl, 3, 0, 0, 0, 0, 0) := by rfl
theorem ft_96_3 : ft_m 96 3 = some (.lstore_n 2, 4, 2, 0, 0, 0, 0) := by rfl
theorem ft_96_4 : ft_m 96 4 = some (.aload_n 0, 5, 0, 0, 0, 0, 0) := by rfl
theorem ft_96_5 : ft_m 96 5 = some (.aload_n 0, 6, 0, 0, 0, 0, 0) := by rfl
theorem ft_96_6 : ft_m 96 6 = some (.getfield 151, 9, 8, 19, 751, 0, 0) := by rfl
theorem ft_96_9 : ft_m 96 9 = some (.lload_n 2, 10, 2, 0, 0, 0, 0) := by rfl
theorem ft_96_10 : ft_m 96 10 = some (.invokestatic 110, 13, 80, 0, 858, 0, 0) := by rfl
theorem ft_96_13 : ft_m 96 13 = some (.putfield 151, 16, 8, 19, 751, 0, 0) := by rfl
theorem ft_96_16 : ft_m 96 16 = some (.aload_n 0, 17, 0, 0, 0, 0, 0) := by rfl
theorem ft_96_17 : ft_m 96 17 = some (.aload_n 0, 18, 0, 0, 0, 0, 0) := by rfl
theorem ft_96_18 : ft_m 96 18 = some (.getfield 157, 21, 8, 20, 752, 0, 0) := by rfl
theorem ft_96_21 : ft_m 96 21 = some (.lload_n 2, 22, 2, 0, 0, 0, 0) := by rfl
theorem ft_96_22 : ft_m 96 22 = some (.invokestatic 110, 25, 80, 0, 858, 0, 0) := by rfl
theorem ft_96_25 : ft_m 96 25 = some (.iload_n 1, 26, 1, 0, 0, 0, 0) := by rfl
theorem ft_96_26 : ft_m 96 26 = some (.ifCond .le 7, 29, 33, 0, 0, 0, 0) := by rfl
theorem ft_96_29 : ft_m 96 29 = some (.lconst 1, 30, 0, 0, 0, 1, 0) := by rfl
theorem ft_96_30 : ft_m 96 30 = some (.goto 4, 33, 34, 0, 0, 0, 0) := by rfl
theorem ft_96_33 : ft_m 96 33 = some (.lconst 0, 34, 0, 0, 0, 0, 0) := by rfl
theorem ft_96_34 : ft_m 96 34 = some (.ladd, 35, 0, 0, 0, 0, 0) := by rfl
theorem ft_96_35 : ft_m 96 35 = some (.putfield 157, 38, 8, 20, 752, 0, 0) := by rfl
theorem ft_96_38 : ft_m 96 38 = some (.return_, 39, 0, 0, 0, 0, 0) := by rfl
theorem ft_97_0 : ft_m 97 0 = some (.aload_n 0, 1, 0, 0, 0, 0, 0) := by rfl
theorem ft_97_1 : ft_m 97 1 = some (.getfield 66, 4, 8, 0, 732, 0, 0) := by rfl
theorem ft_97_4 : ft_m 97 4 = some (.iconst 2, 5, 0, 0, 0, 0, nI 2) := by rfl
theorem ft_97_5 : ft_m 97 5 = some (.isub, 6, 0, 0, 0, 0, 0) := by rfl
theorem ft_97_6 : ft_m 97 6 = some (.istore_n 1, 7, 1, 0, 0, 0, 0) := by rfl
theorem ft_97_7 : ft_m 97 7 = some (.iload_n 1, 8, 1, 0, 0, 0, 0) := by rfl
theorem ft_97_8 : ft_m 97 8 = some (.ifCond .lt 26, 11, 34, 0, 0, 0, 0) := by rfl
theorem ft_97_11 : ft_m 97 11 = some (.aload_n 0, 12, 0, 0, 0, 0, 0) := by rfl
theorem ft_97_12 : ft_m 97 12 = some (.getfield 48, 15, 8, 22, 753, 0, 0) := by rfl
theorem ft_97_15 : ft_m 97 15 = some (.iload_n 1, 16, 1, 0, 0, 0, 0) := by rfl
theorem ft_97_16 : ft_m 97 16 = some (.iaload, 17, 0, 0, 0, 0, 0) := by rfl
theorem ft_97_17 : ft_m 97 17 = some (.aload_n 0, 18, 0, 0, 0, 0, 0) := by rfl
theorem ft_97_18 : ft_m 97 18 = some (.getfield 48, 21, 8, 22, 753, 0, 0) := by rfl
theorem ft_97_21 : ft_m 97 21 = some (.iload_n 1, 22, 1, 0, 0, 0, 0) := by rfl
theorem ft_97_22 : ft_m 97 22 = some (.iconst 1, 23, 0, 0, 0, 0, nI 1) := by rfl
theorem ft_97_23 : ft_m 97 23 = some (.iadd, 24, 0, 0, 0, 0, 0) := by rfl
theorem ft_97_24 : ft_m 97 24 = some (.iaload, 25, 0, 0, 0, 0, 0) := by rfl
theorem ft_97_25 : ft_m 97 25 = some (.if_icmp .le 9, 28, 34, 0, 0, 0, 0) := by rfl
theorem ft_97_28 : ft_m 97 28 = some (.iinc 1 (-1), 31, 1, 0, 0, 0, (-1)) := by rfl
theorem ft_97_31 : ft_m 97 31 = some (.goto (-24), 34, 7, 0, 0, 0, 0) := by rfl
theorem ft_97_34 : ft_m 97 34 = some (.iload_n 1, 35, 1, 0, 0, 0, 0) := by rfl
theorem ft_97_35 : ft_m 97 35 = some (.ifCond .ge 5, 38, 40, 0, 0, 0, 0) := by rfl
theorem ft_97_38 : ft_m 97 38 = some (.iconst 0, 39, 0, 0, 0, 0, nI 0) := by rfl
theorem ft_97_39 : ft_m 97 39 = some (.ireturn, 40, 0, 0, 0, 0, 0) := by rfl
theorem ft_97_40 : ft_m 97 40 = some (.aload_n 0, 41, 0, 0, 0, 0, 0) := by rfl
theorem ft_97_41 : ft_m 97 41 = some (.getfield 66, 44, 8, 0, 732, 0, 0) := by rfl
theorem ft_97_44 : ft_m 97 44 = some (.iconst 1, 45, 0, 0, 0, 0, nI 1) := by rfl
theorem ft_97_45 : ft_m 97 45 = some (.isub, 46, 0, 0, 0, 0, 0) := by rfl
theorem ft_97_46 : ft_m 97 46 = some (.istore_n 2, 47, 2, 0, 0, 0, 0) := by rfl
theorem ft_97_47 : ft_m 97 47 = some (.aload_n 0, 48, 0, 0, 0, 0, 0) := by rfl
theorem ft_97_48 : ft_m 97 48 = some (.getfield 48, 51, 8, 22, 753, 0, 0) := by rfl
theorem ft_97_51 : ft_m 97 51 = some (.iload_n 2, 52, 2, 0, 0, 0, 0) := by rfl
theorem ft_97_52 : ft_m 97 52 = some (.iaload, 53, 0, 0, 0, 0, 0) := by rfl
theorem ft_97_53 : ft_m 97 53 = some (.aload_n 0, 54, 0, 0, 0, 0, 0) := by rfl
theorem ft_97_54 : ft_m 97 54 = some (.getfield 48, 57, 8, 22, 753, 0, 0) := by rfl
theorem ft_97_57 : ft_m 97 57 = some (.iload_n 1, 58, 1, 0, 0, 0, 0) := by rfl
theorem ft_97_58 : ft_m 97 58 = some (.iaload, 59, 0, 0, 0, 0, 0) := by rfl
theorem ft_97_59 : ft_m 97 59 = some (.if_icmp .ge 9, 62, 68, 0, 0, 0, 0) := by rfl
theorem ft_97_62 : ft_m 97 62 = some (.iinc 2 (-1), 65, 2, 0, 0, 0, (-1)) := by rfl
theorem ft_97_65 : ft_m 97 65 = some (.goto (-18), 68, 47, 0, 0, 0, 0) := by rfl
theorem ft_97_68 : ft_m 97 68 = some (.aload_n 0, 69, 0, 0, 0, 0, 0) := by rfl
theorem ft_97_69 : ft_m 97 69 = some (.getfield 48, 72, 8, 22, 753, 0, 0) := by rfl
theorem ft_97_72 : ft_m 97 72 = some (.iload_n 1, 73, 1, 0, 0, 0, 0) := by rfl
theorem ft_97_73 : ft_m 97 73 = some (.iaload, 74, 0, 0, 0, 0, 0) := by rfl
theorem ft_97_74 : ft_m 97 74 = some (.istore_n 3, 75, 3, 0, 0, 0, 0) := by rfl
theorem ft_97_75 : ft_m 97 75 = some (.aload_n 0, 76, 0, 0, 0, 0, 0) := by rfl
theorem ft_97_76 : ft_m 97 76 = some (.getfield 48, 79, 8, 22, 753, 0, 0) := by rfl
theorem ft_97_79 : ft_m 97 79 = some (.iload_n 1, 80, 1, 0, 0, 0, 0) := by rfl
theorem ft_97_80 : ft_m 97 80 = some (.aload_n 0, 81, 0, 0, 0, 0, 0) := by rfl
theorem ft_97_81 : ft_m 97 81 = some (.getfield 48, 84, 8, 22, 753, 0, 0) := by rfl
theorem ft_97_84 : ft_m 97 84 = some (.iload_n 2, 85, 2, 0, 0, 0, 0) := by rfl
theorem ft_97_85 : ft_m 97 85 = some (.iaload, 86, 0, 0, 0, 0, 0) := by rfl
theorem ft_97_86 : ft_m 97 86 = some (.iastore, 87, 0, 0, 0, 0, 0) := by rfl
theorem ft_97_87 : ft_m 97 87 = some (.aload_n 0, 88, 0, 0, 0, 0, 0) := by rfl
theorem ft_97_88 : ft_m 97 88 = some (.getfield 48, 91, 8, 22, 753, 0, 0) := by rfl
theorem ft_97_91 : ft_m 97 91 = some (.iload_n 2, 92, 2, 0, 0, 0, 0) := by rfl
theorem ft_97_92 : ft_m 97 92 = some (.iload_n 3, 93, 3, 0, 0, 0, 0) := by rfl
theorem ft_97_93 : ft_m 97 93 = some (.iastore, 94, 0, 0, 0, 0, 0) := by rfl
theorem ft_97_94 : ft_m 97 94 = some (.iload_n 1, 95, 1, 0, 0, 0, 0) := by rfl
theorem ft_97_95 : ft_m 97 95 = some (.iconst 1, 96, 0, 0, 0, 0, nI 1) := by rfl
theorem ft_97_96 : ft_m 97 96 = some (.iadd, 97, 0, 0, 0, 0, 0) := by rfl
theorem ft_97_97 : ft_m 97 97 = some (.istore 4, 99, 4, 0, 0, 0, 0) := by rfl
theorem ft_97_99 : ft_m 97 99 = some (.aload_n 0, 100, 0, 0, 0, 0, 0) := by rfl
theorem ft_97_100 : ft_m 97 100 = some (.getfield 66, 103, 8, 0, 732, 0, 0) := by rfl
theorem ft_97_103 : ft_m 97 103 = some (.iconst 1, 104, 0, 0, 0, 0, nI 1) := by rfl
theorem ft_97_104 : ft_m 97 104 = some (.isub, 105, 0, 0, 0, 0, 0) := by rfl
theorem ft_97_105 : ft_m 97 105 = some (.istore 5, 107, 5, 0, 0, 0, 0) := by rfl
theorem ft_97_107 : ft_m 97 107 = some (.iload 4, 109, 4, 0, 0, 0, 0) := by rfl
theorem ft_97_109 : ft_m 97 109 = some (.iload 5, 111, 5, 0, 0, 0, 0) := by rfl
theorem ft_97_111 : ft_m 97 111 = some (.if_icmp .ge 44, 114, 155, 0, 0, 0, 0) := by rfl
theorem ft_97_114 : ft_m 97 114 = some (.aload_n 0, 115, 0, 0, 0, 0, 0) := by rfl
theorem ft_97_115 : ft_m 97 115 = some (.getfield 48, 118, 8, 22, 753, 0, 0) := by rfl
theorem ft_97_118 : ft_m 97 118 = some (.iload 4, 120, 4, 0, 0, 0, 0) := by rfl
theorem ft_97_120 : ft_m 97 120 = some (.iaload, 121, 0, 0, 0, 0, 0) := by rfl
theorem ft_97_121 : ft_m 97 121 = some (.istore 6, 123, 6, 0, 0, 0, 0) := by rfl
theorem ft_97_123 : ft_m 97 123 = some (.aload_n 0, 124, 0, 0, 0, 0, 0) := by rfl
theorem ft_97_124 : ft_m 97 124 = some (.getfield 48, 127, 8, 22, 753, 0, 0) := by rfl
theorem ft_97_127 : ft_m 97 127 = some (.iload 4, 129, 4, 0, 0, 0, 0) := by rfl
theorem ft_97_129 : ft_m 97 129 = some (.aload_n 0, 130, 0, 0, 0, 0, 0) := by rfl
theorem ft_97_130 : ft_m 97 130 = some (.getfield 48, 133, 8, 22, 753, 0, 0) := by rfl
theorem ft_97_133 : ft_m 97 133 = some (.iload 5, 135, 5, 0, 0, 0, 0) := by rfl
theorem ft_97_135 : ft_m 97 135 = some (.iaload, 136, 0, 0, 0, 0, 0) := by rfl
theorem ft_97_136 : ft_m 97 136 = some (.iastore, 137, 0, 0, 0, 0, 0) := by rfl
theorem ft_97_137 : ft_m 97 137 = some (.aload_n 0, 138, 0, 0, 0, 0, 0) := by rfl
theorem ft_97_138 : ft_m 97 138 = some (.getfield 48, 141, 8, 22, 753, 0, 0) := by rfl
theorem ft_97_141 : ft_m 97 141 = some (.iload 5, 143, 5, 0, 0, 0, 0) := by rfl
theorem ft_97_143 : ft_m 97 143 = some (.iload 6, 145, 6, 0, 0, 0, 0) := by rfl
theorem ft_97_145 : ft_m 97 145 = some (.iastore, 146, 0, 0, 0, 0, 0) := by rfl
theorem ft_97_146 : ft_m 97 146 = some (.iinc 4 1, 149, 4, 0, 0, 0, nI 1) := by rfl
theorem ft_97_149 : ft_m 97 149 = some (.iinc 5 (-1), 152, 5, 0, 0, 0, (-1)) := by rfl
theorem ft_97_152 : ft_m 97 152 = some (.goto (-45), 155, 107, 0, 0, 0, 0) := by rfl
theorem ft_97_155 : ft_m 97 155 = some (.iconst 1, 156, 0, 0, 0, 0, nI 1) := by rfl
theorem ft_97_156 : ft_m 97 156 = some (.ireturn, 157, 0, 0, 0, 0, 0) := by rfl
theorem ft_98_0 : ft_m 98 0 = some (.aload_n 0, 1, 0, 0, 0, 0, 0) := by rfl
theorem ft_98_1 : ft_m 98 1 = some (.iconst 0, 2, 0, 0, 0, 0, nI 0) := by rfl
theorem ft_98_2 : ft_m 98 2 = some (.putfield 214, 5, 8, 8, 740, 0, 0) := by rfl
theorem ft_98_5 : ft_m 98 5 = some (.iconst 0, 6, 0, 0, 0, 0, nI 0) := by rfl
theorem ft_98_6 : ft_m 98 6 = some (.istore_n 1, 7, 1, 0, 0, 0, 0) := by rfl
theorem ft_98_7 : ft_m 98 7 = some (.iload_n 1, 8, 1, 0, 0, 0, 0) := by rfl
theorem ft_98_8 : ft_m 98 8 = some (.bipush 30, 10, 0, 0, 0, 0, nI 30) := by rfl
theorem ft_98_10 : ft_m 98 10 = some (.if_icmp .ge 16, 13, 26, 0, 0, 0, 0) := by rfl
theorem ft_98_13 : ft_m 98 13 = some (.aload_n 0, 14, 0, 0, 0, 0, 0) := by rfl
theorem ft_98_14 : ft_m 98 14 = some (.getfield 27, 17, 8, 11, 743, 0, 0) := by rfl
theorem ft_98_17 : ft_m 98 17 = some (.iload_n 1, 18, 1, 0, 0, 0, 0) := by rfl
theorem ft_98_18 : ft_m 98 18 = some (.lconst 0, 19, 0, 0, 0, 0, 0) := by rfl
theorem ft_98_19 : ft_m 98 19 = some (.lastore, 20, 0, 0, 0, 0, 0) := by rfl
theorem ft_98_20 : ft_m 98 20 = some (.iinc 1 1, 23, 1, 0, 0, 0, nI 1) := by rfl
theorem ft_98_23 : ft_m 98 23 = some (.goto (-16), 26, 7, 0, 0, 0, 0) := by rfl
theorem ft_98_26 : ft_m 98 26 = some (.iconst 0, 27, 0, 0, 0, 0, nI 0) := by rfl
theorem ft_98_27 : ft_m 98 27 = some (.istore_n 1, 28, 1, 0, 0, 0, 0) := by rfl
theorem ft_98_28 : ft_m 98 28 = some (.iload_n 1, 29, 1, 0, 0, 0, 0) := by rfl
theorem ft_98_29 : ft_m 98 29 = some (.sipush 1584, 32, 0, 0, 0, 0, nI 1584) := by rfl
theorem ft_98_32 : ft_m 98 32 = some (.if_icmp .ge 16, 35, 48, 0, 0, 0, 0) := by rfl
theorem ft_98_35 : ft_m 98 35 = some (.aload_n 0, 36, 0, 0, 0, 0, 0) := by rfl
theorem ft_98_36 : ft_m 98 36 = some (.getfield 57, 39, 8, 30, 761, 0, 0) := by rfl
theorem ft_98_39 : ft_m 98 39 = some (.iload_n 1, 40, 1, 0, 0, 0, 0) := by rfl
theorem ft_98_40 : ft_m 98 40 = some (.lconst 0, 41, 0, 0, 0, 0, 0) := by rfl
theorem ft_98_41 : ft_m 98 41 = some (.lastore, 42, 0, 0, 0, 0, 0) := by rfl
theorem ft_98_42 : ft_m 98 42 = some (.iinc 1 1, 45, 1, 0, 0, 0, nI 1) := by rfl
theorem ft_98_45 : ft_m 98 45 = some (.goto (-17), 48, 28, 0, 0, 0, 0) := by rfl
theorem ft_98_48 : ft_m 98 48 = some (.return_, 49, 0, 0, 0, 0, 0) := by rfl
theorem ft_99_0 : ft_m 99 0 = some (.aload_n 0, 1, 0, 0, 0, 0, 0) := by rfl
theorem ft_99_1 : ft_m 99 1 = some (.iload_n 1, 2, 1, 0, 0, 0, 0) := by rfl
theorem ft_99_2 : ft_m 99 2 = some (.iload_n 2, 3, 2, 0, 0, 0, 0) := by rfl
theorem ft_99_3 : ft_m 99 3 = some (.bipush 8, 5, 0, 0, 0, 0, nI 8) := by rfl
theorem ft_99_5 : ft_m 99 5 = some (.invokevirtual 217, 8, 100, 0, 953, 0, 0) := by rfl
theorem ft_99_8 : ft_m 99 8 = some (.ifCond .eq 17, 11, 25, 0, 0, 0, 0) := by rfl
theorem ft_99_11 : ft_m 99 11 = some (.aload_n 0, 12, 0, 0, 0, 0, 0) := by rfl
theorem ft_99_12 : ft_m 99 12 = some (.getfield 21, 15, 8, 9, 741, 0, 0) := by rfl
theorem ft_99_15 : ft_m 99 15 = some (.bipush 9, 17, 0, 0, 0, 0, nI 9) := by rfl
theorem ft_99_17 : ft_m 99 17 = some (.iload_n 1, 18, 1, 0, 0, 0, 0) := by rfl
theorem ft_99_18 : ft_m 99 18 = some (.imul, 19, 0, 0, 0, 0, 0) := by rfl
theorem ft_99_19 : ft_m 99 19 = some (.iload_n 2, 20, 2, 0, 0, 0, 0) := by rfl
theorem ft_99_20 : ft_m 99 20 = some (.iadd, 21, 0, 0, 0, 0, 0) := by rfl
theorem ft_99_21 : ft_m 99 21 = some (.laload, 22, 0, 0, 0, 0, 0) := by rfl
theorem ft_99_22 : ft_m 99 22 = some (.goto 6, 25, 28, 0, 0, 0, 0) := by rfl
theorem ft_99_25 : ft_m 99 25 = some (.ldc2_w 142, 28, 0, 0, 904, (-1), 0) := by rfl
theorem ft_99_28 : ft_m 99 28 = some (.lreturn, 29, 0, 0, 0, 0, 0) := by rfl
theorem ft_100_0 : ft_m 100 0 = some (.aload_n 0, 1, 0, 0, 0, 0, 0) := by rfl
theorem ft_100_1 : ft_m 100 1 = some (.getfield 78, 4, 8, 4, 736, 0, 0) := by rfl
theorem ft_100_4 : ft_m 100 4 = some (.ifCond .eq 34, 7, 38, 0, 0, 0, 0) := by rfl
theorem ft_100_7 : ft_m 100 7 = some (.iload_n 1, 8, 1, 0, 0, 0, 0) := by rfl
theorem ft_100_8 : ft_m 100 8 = some (.i2l, 9, 0, 0, 0, 0, 0) := by rfl
theorem ft_100_9 : ft_m 100 9 = some (.lconst 0, 10, 0, 0, 0, 0, 0) := by rfl
theorem ft_100_10 : ft_m 100 10 = some (.aload_n 0, 11, 0, 0, 0, 0, 0) := by rfl
theorem ft_100_11 : ft_m 100 11 = some (.getfield 66, 14, 8, 0, 732, 0, 0) := by rfl
theorem ft_100_14 : ft_m 100 14 = some (.iconst 1, 15, 0, 0, 0, 0, nI 1) := by rfl
theorem ft_100_15 : ft_m 100 15 = some (.isub, 16, 0, 0, 0, 0, 0) := by rfl
theorem ft_100_16 : ft_m 100 16 = some (.i2l, 17, 0, 0, 0, 0, 0) := by rfl
theorem ft_100_17 : ft_m 100 17 = some (.invokestatic 70, 20, 75, 0, 838, 0, 0) := by rfl
theorem ft_100_20 : ft_m 100 20 = some (.ifCond .eq 18, 23, 38, 0, 0, 0, 0) := by rfl
theorem ft_100_23 : ft_m 100 23 = some (.iload_n 2, 24, 2, 0, 0, 0, 0) := by rfl
theorem ft_100_24 : ft_m 100 24 = some (.i2l, 25, 0, 0, 0, 0, 0) := by rfl
theorem ft_100_25 : ft_m 100 25 = some (.lconst 0, 26, 0, 0, 0, 0, 0) := by rfl
theorem ft_100_26 : ft_m 100 26 = some (.iload_n 3, 27, 3, 0, 0, 0, 0) := by rfl
theorem ft_100_27 : ft_m 100 27 = some (.i2l, 28, 0, 0, 0, 0, 0) := by rfl
theorem ft_100_28 : ft_m 100 28 = some (.invokestatic 70, 31, 75, 0, 838, 0, 0) := by rfl
theorem ft_100_31 : ft_m 100 31 = some (.ifCond .eq 7, 34, 38, 0, 0, 0, 0) := by rfl
theorem ft_100_34 : ft_m 100 34 = some (.iconst 1, 35, 0, 0, 0, 0, nI 1) := by rfl
theorem ft_100_35 : ft_m 100 35 = some (.goto 4, 38, 39, 0, 0, 0, 0) := by rfl
theorem ft_100_38 : ft_m 100 38 = some (.iconst 0, 39, 0, 0, 0, 0, nI 0) := by rfl
theorem ft_100_39 : ft_m 100 39 = some (.ireturn, 40, 0, 0, 0, 0, 0) := by rfl
theorem ft_101_0 : ft_m 101 0 = some (.aload_n 0, 1, 0, 0, 0, 0, 0) := by rfl
theorem ft_101_1 : ft_m 101 1 = some (.iload_n 1, 2, 1, 0, 0, 0, 0) := by rfl
theorem ft_101_2 : ft_m 101 2 = some (.iload_n 2, 3, 2, 0, 0, 0, 0) := by rfl
theorem ft_101_3 : ft_m 101 3 = some (.bipush 8, 5, 0, 0, 0, 0, nI 8) := by rfl
theorem ft_101_5 : ft_m 101 5 = some (.invokevirtual 217, 8, 100, 0, 953, 0, 0) := by rfl
theorem ft_101_8 : ft_m 101 8 = some (.ifCond .ne 5, 11, 13, 0, 0, 0, 0) := by rfl
theorem ft_101_11 : ft_m 101 11 = some (.iconst (-1), 12, 0, 0, 0, 0, (-1)) := by rfl
theorem ft_101_12 : ft_m 101 12 = some (.ireturn, 13, 0, 0, 0, 0, 0) := by rfl
theorem ft_101_13 : ft_m 101 13 = some (.lload_n 3, 14, 3, 0, 0, 0, 0) := by rfl
theorem ft_101_14 : ft_m 101 14 = some (.lconst 0, 15, 0, 0, 0, 0, 0) := by rfl
theorem ft_101_15 : ft_m 101 15 = some (.ldc2_w 221, 18, 0, 0, 961, 1125899906842624, 0) := by rfl
theorem ft_101_18 : ft_m 101 18 = some (.invokestatic 70, 21, 75, 0, 838, 0, 0) := by rfl
theorem ft_101_21 : ft_m 101 21 = some (.ifCond .ne 6, 24, 27, 0, 0, 0, 0) := by rfl
theorem ft_101_24 : ft_m 101 24 = some (.bipush (-2), 26, 0, 0, 0, 0, (-2)) := by rfl
theorem ft_101_26 : ft_m 101 26 = some (.ireturn, 27, 0, 0, 0, 0, 0) := by rfl
theorem ft_101_27 : ft_m 101 27 = some (.aload_n 0, 28, 0, 0, 0, 0, 0) := by rfl
theorem ft_101_28 : ft_m 101 28 = some (.getfield 21, 31, 8, 9, 741, 0, 0) := by rfl
theorem ft_101_31 : ft_m 101 31 = some (.bipush 9, 33, 0, 0, 0, 0, nI 9) := by rfl
theorem ft_101_33 : ft_m 101 33 = some (.iload_n 1, 34, 1, 0, 0, 0, 0) := by rfl
theorem ft_101_34 : ft_m 101 34 = some (.imul, 35, 0, 0, 0, 0, 0) := by rfl
theorem ft_101_35 : ft_m 101 35 = some (.iload_n 2, 36, 2, 0, 0, 0, 0) := by rfl
theorem ft_101_36 : ft_m 101 36 = some (.iadd, 37, 0, 0, 0, 0, 0) := by rfl
theorem ft_101_37 : ft_m 101 37 = some (.lload_n 3, 38, 3, 0, 0, 0, 0) := by rfl
theorem ft_101_38 : ft_m 101 38 = some (.lastore, 39, 0, 0, 0, 0, 0) := by rfl
theorem ft_101_39 : ft_m 101 39 = some (.iconst 1, 40, 0, 0, 0, 0, nI 1) := by rfl
theorem ft_101_40 : ft_m 101 40 = some (.ireturn, 41, 0, 0, 0, 0, 0) := by rfl
theorem ft_102_0 : ft_m 102 0 = some (.aload_n 0, 1, 0, 0, 0, 0, 0) := by rfl
theorem ft_102_1 : ft_m 102 1 = some (.getfield 78, 4, 8, 4, 736, 0, 0) := by rfl
theorem ft_102_4 : ft_m 102 4 = some (.ifCond .ne 5, 7, 9, 0, 0, 0, 0) := by rfl
theorem ft_102_7 : ft_m 102 7 = some (.iconst (-1), 8, 0, 0, 0, 0, (-1)) := by rfl
theorem ft_102_8 : ft_m 102 8 = some (.ireturn, 9, 0, 0, 0, 0, 0) := by rfl
theorem ft_102_9 : ft_m 102 9 = some (.iconst 0, 10, 0, 0, 0, 0, nI 0) := by rfl
theorem ft_102_10 : ft_m 102 10 = some (.istore_n 1, 11, 1, 0, 0, 0, 0) := by rfl
theorem ft_102_11 : ft_m 102 11 = some (.iload_n 1, 12, 1, 0, 0, 0, 0) := by rfl
theorem ft_102_12 : ft_m 102 12 = some (.aload_n 0, 13, 0, 0, 0, 0, 0) := by rfl
theorem ft_102_13 : ft_m 102 13 = some (.getfield 66, 16, 8, 0, 732, 0, 0) := by rfl
theorem ft_102_16 : ft_m 102 16 = some (.if_icmp .ge 28, 19, 44, 0, 0, 0, 0) := by rfl
theorem ft_102_19 : ft_m 102 19 = some (.aload_n 0, 20, 0, 0, 0, 0, 0) := by rfl
theorem ft_102_20 : ft_m 102 20 = some (.iload_n 1, 21, 1, 0, 0, 0, 0) := by rfl
theorem ft_102_21 : ft_m 102 21 = some (.invokevirtual 223, 24, 103, 0, 966, 0, 0) := by rfl
theorem ft_102_24 : ft_m 102 24 = some (.istore_n 2, 25, 2, 0, 0, 0, 0) := by rfl
theorem ft_102_25 : ft_m 102 25 = some (.iload_n 2, 26, 2, 0, 0, 0, 0) := by rfl
theorem ft_102_26 : ft_m 102 26 = some (.ifCond .le 12, 29, 38, 0, 0, 0, 0) := by rfl
theorem ft_102_29 : ft_m 102 29 = some (.bipush 10, 31, 0, 0, 0, 0, nI 10) := by rfl
theorem ft_102_31 : ft_m 102 31 = some (.iload_n 1, 32, 1, 0, 0, 0, 0) := by rfl
theorem ft_102_32 : ft_m 102 32 = some (.iconst 1, 33, 0, 0, 0, 0, nI 1) := by rfl
theorem ft_102_33 : ft_m 102 33 = some (.iadd, 34, 0, 0, 0, 0, 0) := by rfl
theorem ft_102_34 : ft_m 102 34 = some (.imul, 35, 0, 0, 0, 0, 0) := by rfl
theorem ft_102_35 : ft_m 102 35 = some (.iload_n 2, 36, 2, 0, 0, 0, 0) := by rfl
theorem ft_102_36 : ft_m 102 36 = some (.iadd, 37, 0, 0, 0, 0, 0) := by rfl
theorem ft_102_37 : ft_m 102 37 = some (.ireturn, 38, 0, 0, 0, 0, 0) := by rfl
theorem ft_102_38 : ft_m 102 38 = some (.iinc 1 1, 41, 1, 0, 0, 0, nI 1) := by rfl
theorem ft_102_41 : ft_m 102 41 = some (.goto (-30), 44, 11, 0, 0, 0, 0) := by rfl
theorem ft_102_44 : ft_m 102 44 = some (.iconst 0, 45, 0, 0, 0, 0, nI 0) := by rfl
theorem ft_102_45 : ft_m 102 45 = some (.ireturn, 46, 0, 0, 0, 0, 0) := by rfl
theorem ft_103_0 : ft_m 103 0 = some (.aload_n 0, 1, 0, 0, 0, 0, 0) := by rfl
theorem ft_103_1 : ft_m 103 1 = some (.getfield 21, 4, 8, 9, 741, 0, 0) := by rfl
theorem ft_103_4 : ft_m 103 4 = some (.bipush 9, 6, 0, 0, 0, 0, nI 9) := by rfl
theorem ft_103_6 : ft_m 103 6 = some (.iload_n 1, 7, 1, 0, 0, 0, 0) := by rfl
theorem ft_103_7 : ft_m 103 7 = some (.imul, 8, 0, 0, 0, 0, 0) := by rfl
theorem ft_103_8 : ft_m 103 8 = some (.laload, 9, 0, 0, 0, 0, 0) := by rfl
theorem ft_103_9 : ft_m 103 9 = some (.lstore_n 2, 10, 2, 0, 0, 0, 0) := by rfl
theorem ft_103_10 : ft_m 103 10 = some (.iconst 0, 11, 0, 0, 0, 0, nI 0) := by rfl
theorem ft_103_11 : ft_m 103 11 = some (.istore 4, 13, 4, 0, 0, 0, 0) := by rfl
theorem ft_103_13 : ft_m 103 13 = some (.iconst 0, 14, 0, 0, 0, 0, nI 0) := by rfl
theorem ft_103_14 : ft_m 103 14 = some (.istore 5, 16, 5, 0, 0, 0, 0) := by rfl
theorem ft_103_16 : ft_m 103 16 = some (.iload 5, 18, 5, 0, 0, 0, 0) := by rfl
theorem ft_103_18 : ft_m 103 18 = some (.iload_n 1, 19, 1, 0, 0, 0, 0) := by rfl
theorem ft_103_19 : ft_m 103 19 = some (.if_icmp .ge 36, 22, 55, 0, 0, 0, 0) := by rfl
theorem ft_103_22 : ft_m 103 22 = some (.iload 4, 24, 4, 0, 0, 0, 0) := by rfl
theorem ft_103_24 : ft_m 103 24 = some (.ifCond .ne 18, 27, 42, 0, 0, 0, 0) := by rfl
theorem ft_103_27 : ft_m 103 27 = some (.aload_n 0, 28, 0, 0, 0, 0, 0) := by rfl
theorem ft_103_28 : ft_m 103 28 = some (.getfield 21, 31, 8, 9, 741, 0, 0) := by rfl
theorem ft_103_31 : ft_m 103 31 = some (.bipush 9, 33, 0, 0, 0, 0, nI 9) := by rfl
theorem ft_103_33 : ft_m 103 33 = some (.iload 5, 35, 5, 0, 0, 0, 0) := by rfl
theorem ft_103_35 : ft_m 103 35 = some (.imul, 36, 0, 0, 0, 0, 0) := by rfl
theorem ft_103_36 : ft_m 103 36 = some (.laload, 37, 0, 0, 0, 0, 0) := by rfl
theorem ft_103_37 : ft_m 103 37 = some (.lload_n 2, 38, 2, 0, 0, 0, 0) := by rfl
theorem ft_103_38 : ft_m 103 38 = some (.lcmp, 39, 0, 0, 0, 0, 0) := by rfl
theorem ft_103_39 : ft_m 103 39 = some (.ifCond .ne 7, 42, 46, 0, 0, 0, 0) := by rfl
theorem ft_103_42 : ft_m 103 42 = some (.iconst 1, 43, 0, 0, 0, 0, nI 1) := by rfl
theorem ft_103_43 : ft_m 103 43 = some (.goto 4, 46, 47, 0, 0, 0, 0) := by rfl
theorem ft_103_46 : ft_m 103 46 = some (.iconst 0, 47, 0, 0, 0, 0, nI 0) := by rfl
theorem ft_103_47 : ft_m 103 47 = some (.istore 4, 49, 4, 0, 0, 0, 0) := by rfl
theorem ft_103_49 : ft_m 103 49 = some (.iinc 5 1, 52, 5, 0, 0, 0, nI 1) := by rfl
theorem ft_103_52 : ft_m 103 52 = some (.goto (-36), 55, 16, 0, 0, 0, 0) := by rfl
theorem ft_103_55 : ft_m 103 55 = some (.aload_n 0, 56, 0, 0, 0, 0, 0) := by rfl
theorem ft_103_56 : ft_m 103 56 = some (.lload_n 2, 57, 2, 0, 0, 0, 0) := by rfl
theorem ft_103_57 : ft_m 103 57 = some (.invokevirtual 136, 60, 89, 0, 899, 0, 0) := by rfl
theorem ft_103_60 : ft_m 103 60 = some (.ifCond .eq 8, 63, 68, 0, 0, 0, 0) := by rfl
theorem ft_103_63 : ft_m 103 63 = some (.iload 4, 65, 4, 0, 0, 0, 0) := by rfl
theorem ft_103_65 : ft_m 103 65 = some (.ifCond .eq 5, 68, 70, 0, 0, 0, 0) := by rfl
theorem ft_103_68 : ft_m 103 68 = some (.iconst 1, 69, 0, 0, 0, 0, nI 1) := by rfl
theorem ft_103_69 : ft_m 103 69 = some (.ireturn, 70, 0, 0, 0, 0, 0) := by rfl
theorem ft_103_70 : ft_m 103 70 = some (.lload_n 2, 71, 2, 0, 0, 0, 0) := by rfl
theorem ft_103_71 : ft_m 103 71 = some (.l2i, 72, 0, 0, 0, 0, 0) := by rfl
theorem ft_103_72 : ft_m 103 72 = some (.istore 5, 74, 5, 0, 0, 0, 0) := by rfl
theorem ft_103_74 : ft_m 103 74 = some (.aload_n 0, 75, 0, 0, 0, 0, 0) := by rfl
theorem ft_103_75 : ft_m 103 75 = some (.getfield 21, 78, 8, 9, 741, 0, 0) := by rfl
theorem ft_103_78 : ft_m 103 78 = some (.bipush 9, 80, 0, 0, 0, 0, nI 9) := by rfl
theorem ft_103_80 : ft_m 103 80 = some (.iload_n 1, 81, 1, 0, 0, 0, 0) := by rfl
theorem ft_103_81 : ft_m 103 81 = some (.imul, 82, 0, 0, 0, 0, 0) := by rfl
theorem ft_103_82 : ft_m 103 82 = some (.iconst 1, 83, 0, 0, 0, 0, nI 1) := by rfl
theorem ft_103_83 : ft_m 103 83 = some (.iadd, 84, 0, 0, 0, 0, 0) := by rfl
theorem ft_103_84 : ft_m 103 84 = some (.laload, 85, 0, 0, 0, 0, 0) := by rfl
theorem ft_103_85 : ft_m 103 85 = some (.lstore 6, 87, 6, 0, 0, 0, 0) := by rfl
theorem ft_103_87 : ft_m 103 87 = some (.aload_n 0, 88, 0, 0, 0, 0, 0) := by rfl
theorem ft_103_88 : ft_m 103 88 = some (.getfield 21, 91, 8, 9, 741, 0, 0) := by rfl
theorem ft_103_91 : ft_m 103 91 = some (.bipush 9, 93, 0, 0, 0, 0, nI 9) := by rfl
theorem ft_103_93 : ft_m 103 93 = some (.iload_n 1, 94, 1, 0, 0, 0, 0) := by rfl
theorem ft_103_94 : ft_m 103 94 = some (.imul, 95, 0, 0, 0, 0, 0) := by rfl
theorem ft_103_95 : ft_m 103 95 = some (.iconst 2, 96, 0, 0, 0, 0, nI 2) := by rfl
theorem ft_103_96 : ft_m 103 96 = some (.iadd, 97, 0, 0, 0, 0, 0) := by rfl
theorem ft_103_97 : ft_m 103 97 = some (.laload, 98, 0, 0, 0, 0, 0) := by rfl
theorem ft_103_98 : ft_m 103 98 = some (.lstore 8, 100, 8, 0, 0, 0, 0) := by rfl
theorem ft_103_100 : ft_m 103 100 = some (.aload_n 0, 101, 0, 0, 0, 0, 0) := by rfl
theorem ft_103_101 : ft_m 103 101 = some (.getfield 21, 104, 8, 9, 741, 0, 0) := by rfl
theorem ft_103_104 : ft_m 103 104 = some (.bipush 9, 106, 0, 0, 0, 0, nI 9) := by rfl
theorem ft_103_106 : ft_m 103 106 = some (.iload_n 1, 107, 1, 0, 0, 0, 0) := by rfl
theorem ft_103_107 : ft_m 103 107 = some (.imul, 108, 0, 0, 0, 0, 0) := by rfl
theorem ft_103_108 : ft_m 103 108 = some (.iconst 3, 109, 0, 0, 0, 0, nI 3) := by rfl
theorem ft_103_109 : ft_m 103 109 = some (.iadd, 110, 0, 0, 0, 0, 0) := by rfl
theorem ft_103_110 : ft_m 103 110 = some (.laload, 111, 0, 0, 0, 0, 0) := by rfl
theorem ft_103_111 : ft_m 103 111 = some (.lstore 10, 113, 10, 0, 0, 0, 0) := by rfl
theorem ft_103_113 : ft_m 103 113 = some (.lload 6, 115, 6, 0, 0, 0, 0) := by rfl
theorem ft_103_115 : ft_m 103 115 = some (.ldc2_w 181, 118, 0, 0, 916, 2, 0) := by rfl
theorem ft_103_118 : ft_m 103 118 = some (.ldc2_w 90, 121, 0, 0, 890, 1000, 0) := by rfl
theorem ft_103_121 : ft_m 103 121 = some (.invokestatic 70, 124, 75, 0, 838, 0, 0) := by rfl
theorem ft_103_124 : ft_m 103 124 = some (.ifCond .eq 73, 127, 197, 0, 0, 0, 0) := by rfl
theorem ft_103_127 : ft_m 103 127 = some (.aload_n 0, 128, 0, 0, 0, 0, 0) := by rfl
theorem ft_103_128 : ft_m 103 128 = some (.iload 5, 130, 5, 0, 0, 0, 0) := by rfl
theorem ft_103_130 : ft_m 103 130 = some (.lload 6, 132, 6, 0, 0, 0, 0) := by rfl
theorem ft_103_132 : ft_m 103 132 = some (.l2i, 133, 0, 0, 0, 0, 0) := by rfl
theorem ft_103_133 : ft_m 103 133 = some (.invokevirtual 116, 136, 77, 0, 845, 0, 0) := by rfl
theorem ft_103_136 : ft_m 103 136 = some (.ifCond .eq 61, 139, 197, 0, 0, 0, 0) := by rfl
theorem ft_103_139 : ft_m 103 139 = some (.aload_n 0, 140, 0, 0, 0, 0, 0) := by rfl
theorem ft_103_140 : ft_m 103 140 = some (.lload 6, 142, 6, 0, 0, 0, 0) := by rfl
theorem ft_103_142 : ft_m 103 142 = some (.l2i, 143, 0, 0, 0, 0, 0) := by rfl
theorem ft_103_143 : ft_m 103 143 = some (.invokevirtual 126, 146, 82, 0, 866, 0, 0) := by rfl
theorem ft_103_146 : ft_m 103 146 = some (.ldc2_w 108, 149, 0, 0, 857, 70368744177664, 0) := by rfl
theorem ft_103_149 : ft_m 103 149 = some (.lcmp, 150, 0, 0, 0, 0, 0) := by rfl
theorem ft_103_150 : ft_m 103 150 = some (.ifCond .gt 47, 153, 197, 0, 0, 0, 0) := by rfl
theorem ft_103_153 : ft_m 103 153 = some (.lload 8, 155, 8, 0, 0, 0, 0) := by rfl
theorem ft_103_155 : ft_m 103 155 = some (.aload_n 0, 156, 0, 0, 0, 0, 0) := by rfl
theorem ft_103_156 : ft_m 103 156 = some (.lload 6, 158, 6, 0, 0, 0, 0) := by rfl
theorem ft_103_158 : ft_m 103 158 = some (.l2i, 159, 0, 0, 0, 0, 0) := by rfl
theorem ft_103_159 : ft_m 103 159 = some (.invokevirtual 126, 162, 82, 0, 866, 0, 0) := by rfl
theorem ft_103_162 : ft_m 103 162 = some (.lcmp, 163, 0, 0, 0, 0, 0) := by rfl
theorem ft_103_163 : ft_m 103 163 = some (.ifCond .lt 34, 166, 197, 0, 0, 0, 0) := by rfl
theorem ft_103_166 : ft_m 103 166 = some (.lload 10, 168, 10, 0, 0, 0, 0) := by rfl
theorem ft_103_168 : ft_m 103 168 = some (.aload_n 0, 169, 0, 0, 0, 0, 0) := by rfl
theorem ft_103_169 : ft_m 103 169 = some (.lload 6, 171, 6, 0, 0, 0, 0) := by rfl
theorem ft_103_171 : ft_m 103 171 = some (.l2i, 172, 0, 0, 0, 0, 0) := by rfl
theorem ft_103_172 : ft_m 103 172 = some (.invokevirtual 120, 175, 81, 0, 861, 0, 0) := by rfl
theorem ft_103_175 : ft_m 103 175 = some (.lcmp, 176, 0, 0, 0, 0, 0) := by rfl
theorem ft_103_176 : ft_m 103 176 = some (.ifCond .lt 21, 179, 197, 0, 0, 0, 0) := by rfl
theorem ft_103_179 : ft_m 103 179 = some (.lload 10, 181, 10, 0, 0, 0, 0) := by rfl
theorem ft_103_181 : ft_m 103 181 = some (.ldc2_w 124, 184, 0, 0, 865, 2147483648, 0) := by rfl
theorem ft_103_184 : ft_m 103 184 = some (.lcmp, 185, 0, 0, 0, 0, 0) := by rfl
theorem ft_103_185 : ft_m 103 185 = some (.ifCond .gt 12, 188, 197, 0, 0, 0, 0) := by rfl
theorem ft_103_188 : ft_m 103 188 = some (.lload 8, 190, 8, 0, 0, 0, 0) := by rfl
theorem ft_103_190 : ft_m 103 190 = some (.ldc2_w 108, 193, 0, 0, 857, 70368744177664, 0) := by rfl
theorem ft_103_193 : ft_m 103 193 = some (.lcmp, 194, 0, 0, 0, 0, 0) := by rfl
theorem ft_103_194 : ft_m 103 194 = some (.ifCond .le 5, 197, 199, 0, 0, 0, 0) := by rfl
theorem ft_103_197 : ft_m 103 197 = some (.iconst 2, 198, 0, 0, 0, 0, nI 2) := by rfl
theorem ft_103_198 : ft_m 103 198 = some (.ireturn, 199, 0, 0, 0, 0, 0) := by rfl
theorem ft_103_199 : ft_m 103 199 = some (.aload_n 0, 200, 0, 0, 0, 0, 0) := by rfl
theorem ft_103_200 : ft_m 103 200 = some (.getfield 21, 203, 8, 9, 741, 0, 0) := by rfl
theorem ft_103_203 : ft_m 103 203 = some (.bipush 9, 205, 0, 0, 0, 0, nI 9) := by rfl
theorem ft_103_205 : ft_m 103 205 = some (.iload_n 1, 206, 1, 0, 0, 0, 0) := by rfl
theorem ft_103_206 : ft_m 103 206 = some (.imul, 207, 0, 0, 0, 0, 0) := by rfl
theorem ft_103_207 : ft_m 103 207 = some (.iconst 4, 208, 0, 0, 0, 0, nI 4) := by rfl
theorem ft_103_208 : ft_m 103 208 = some (.iadd, 209, 0, 0, 0, 0, 0) := by rfl
theorem ft_103_209 : ft_m 103 209 = some (.laload, 210, 0, 0, 0, 0, 0) := by rfl
theorem ft_103_210 : ft_m 103 210 = some (.lstore 12, 212, 12, 0, 0, 0, 0) := by rfl
theorem ft_103_212 : ft_m 103 212 = some (.lload 12, 214, 12, 0, 0, 0, 0) := by rfl
theorem ft_103_214 : ft_m 103 214 = some (.ldc2_w 131, 217, 0, 0, 871, 17592186044416, 0) := by rfl
theorem ft_103_217 : ft_m 103 217 = some (.lcmp, 218, 0, 0, 0, 0, 0) := by rfl
theorem ft_103_218 : ft_m 103 218 = some (.ifCond .gt 26, 221, 244, 0, 0, 0, 0) := by rfl
theorem ft_103_221 : ft_m 103 221 = some (.lload 12, 223, 12, 0, 0, 0, 0) := by rfl
theorem ft_103_223 : ft_m 103 223 = some (.ldc2_w 100, 226, 0, 0, 849, 4294967296, 0) := by rfl
theorem ft_103_226 : ft_m 103 226 = some (.lload 10, 228, 10, 0, 0, 0, 0) := by rfl
theorem ft_103_228 : ft_m 103 228 = some (.lsub, 229, 0, 0, 0, 0, 0) := by rfl
theorem ft_103_229 : ft_m 103 229 = some (.ldc2_w 129, 232, 0, 0, 870, 65536, 0) := by rfl
theorem ft_103_232 : ft_m 103 232 = some (.ldiv, 233, 0, 0, 0, 0, 0) := by rfl
theorem ft_103_233 : ft_m 103 233 = some (.lmul, 234, 0, 0, 0, 0, 0) := by rfl
theorem ft_103_234 : ft_m 103 234 = some (.lload 8, 236, 8, 0, 0, 0, 0) := by rfl
theorem ft_103_236 : ft_m 103 236 = some (.ldc2_w 129, 239, 0, 0, 870, 65536, 0) := by rfl
theorem ft_103_239 : ft_m 103 239 = some (.lmul, 240, 0, 0, 0, 0, 0) := by rfl
theorem ft_103_240 : ft_m 103 240 = some (.lcmp, 241, 0, 0, 0, 0, 0) := by rfl
theorem ft_103_241 : ft_m 103 241 = some (.ifCond .ge 5, 244, 246, 0, 0, 0, 0) := by rfl
theorem ft_103_244 : ft_m 103 244 = some (.iconst 3, 245, 0, 0, 0, 0, nI 3) := by rfl
theorem ft_103_245 : ft_m 103 245 = some (.ireturn, 246, 0, 0, 0, 0, 0) := by rfl
theorem ft_103_246 : ft_m 103 246 = some (.aload_n 0, 247, 0, 0, 0, 0, 0) := by rfl
theorem ft_103_247 : ft_m 103 247 = some (.getfield 21, 250, 8, 9, 741, 0, 0) := by rfl
theorem ft_103_250 : ft_m 103 250 = some (.bipush 9, 252, 0, 0, 0, 0, nI 9) := by rfl
theorem ft_103_252 : ft_m 103 252 = some (.iload_n 1, 253, 1, 0, 0, 0, 0) := by rfl
theorem ft_103_253 : ft_m 103 253 = some (.imul, 254, 0, 0, 0, 0, 0) := by rfl
theorem ft_103_254 : ft_m 103 254 = some (.iconst 5, 255, 0, 0, 0, 0, nI 5) := by rfl
theorem ft_103_255 : ft_m 103 255 = some (.iadd, 256, 0, 0, 0, 0, 0) := by rfl
theorem ft_103_256 : ft_m 103 256 = some (.laload, 257, 0, 0, 0, 0, 0) := by rfl
theorem ft_103_257 : ft_m 103 257 = some (.lstore 14, 259, 14, 0, 0, 0, 0) := by rfl
theorem ft_103_259 : ft_m 103 259 = some (.lload 14, 261, 14, 0, 0, 0, 0) := by rfl
theorem ft_103_261 : ft_m 103 261 = some (.ldc2_w 227, 264, 0, 0, 970, 281474976710656, 0) := by rfl
theorem ft_103_264 : ft_m 103 264 = some (.lcmp, 265, 0, 0, 0, 0, 0) := by rfl
theorem ft_103_265 : ft_m 103 265 = some (.ifCond .gt 22, 268, 287, 0, 0, 0, 0) := by rfl
theorem ft_103_268 : ft_m 103 268 = some (.lload 14, 270, 14, 0, 0, 0, 0) := by rfl
theorem ft_103_270 : ft_m 103 270 = some (.ldc2_w 102, 273, 0, 0, 850, 16384, 0) := by rfl
theorem ft_103_273 : ft_m 103 273 = some (.lmul, 274, 0, 0, 0, 0, 0) := by rfl
theorem ft_103_274 : ft_m 103 274 = some (.aload_n 0, 275, 0, 0, 0, 0, 0) := by rfl
theorem ft_103_275 : ft_m 103 275 = some (.iload 5, 277, 5, 0, 0, 0, 0) := by rfl
theorem ft_103_277 : ft_m 103 277 = some (.invokevirtual 133, 280, 83, 0, 872, 0, 0) := by rfl
theorem ft_103_280 : ft_m 103 280 = some (.lload 12, 282, 12, 0, 0, 0, 0) := by rfl
theorem ft_103_282 : ft_m 103 282 = some (.lmul, 283, 0, 0, 0, 0, 0) := by rfl
theorem ft_103_283 : ft_m 103 283 = some (.lcmp, 284, 0, 0, 0, 0, 0) := by rfl
theorem ft_103_284 : ft_m 103 284 = some (.ifCond .ge 5, 287, 289, 0, 0, 0, 0) := by rfl
theorem ft_103_287 : ft_m 103 287 = some (.iconst 4, 288, 0, 0, 0, 0, nI 4) := by rfl
theorem ft_103_288 : ft_m 103 288 = some (.ireturn, 289, 0, 0, 0, 0, 0) := by rfl
theorem ft_103_289 : ft_m 103 289 = some (.iload_n 1, 290, 1, 0, 0, 0, 0) := by rfl
theorem ft_103_290 : ft_m 103 290 = some (.ifCond .ne 19, 293, 309, 0, 0, 0, 0) := by rfl
theorem ft_103_293 : ft_m 103 293 = some (.lconst 1, 294, 0, 0, 0, 1, 0) := by rfl
theorem ft_103_294 : ft_m 103 294 = some (.aload_n 0, 295, 0, 0, 0, 0, 0) := by rfl
theorem ft_103_295 : ft_m 103 295 = some (.getfield 205, 298, 8, 6, 738, 0, 0) := by rfl
theorem ft_103_298 : ft_m 103 298 = some (.iconst 1, 299, 0, 0, 0, 0, nI 1) := by rfl
theorem ft_103_299 : ft_m 103 299 = some (.isub, 300, 0, 0, 0, 0, 0) := by rfl
theorem ft_103_300 : ft_m 103 300 = some (.aload_n 0, 301, 0, 0, 0, 0, 0) := by rfl
theorem ft_103_301 : ft_m 103 301 = some (.getfield 195, 304, 8, 7, 739, 0, 0) := by rfl
theorem ft_103_304 : ft_m 103 304 = some (.iadd, 305, 0, 0, 0, 0, 0) := by rfl
theorem ft_103_305 : ft_m 103 305 = some (.lshl, 306, 0, 0, 0, 0, 0) := by rfl
theorem ft_103_306 : ft_m 103 306 = some (.goto 14, 309, 320, 0, 0, 0, 0) := by rfl
theorem ft_103_309 : ft_m 103 309 = some (.aload_n 0, 310, 0, 0, 0, 0, 0) := by rfl
theorem ft_103_310 : ft_m 103 310 = some (.getfield 21, 313, 8, 9, 741, 0, 0) := by rfl
theorem ft_103_313 : ft_m 103 313 = some (.bipush 9, 315, 0, 0, 0, 0, nI 9) := by rfl
theorem ft_103_315 : ft_m 103 315 = some (.iload_n 1, 316, 1, 0, 0, 0, 0) := by rfl
theorem ft_103_316 : ft_m 103 316 = some (.imul, 317, 0, 0, 0, 0, 0) := by rfl
theorem ft_103_317 : ft_m 103 317 = some (.iconst 2, 318, 0, 0, 0, 0, nI 2) := by rfl
theorem ft_103_318 : ft_m 103 318 = some (.isub, 319, 0, 0, 0, 0, 0) := by rfl
theorem ft_103_319 : ft_m 103 319 = some (.laload, 320, 0, 0, 0, 0, 0) := by rfl
theorem ft_103_320 : ft_m 103 320 = some (.lstore 16, 322, 16, 0, 0, 0, 0) := by rfl
theorem ft_103_322 : ft_m 103 322 = some (.iload_n 1, 323, 1, 0, 0, 0, 0) := by rfl
theorem ft_103_323 : ft_m 103 323 = some (.ifCond .ne 7, 326, 330, 0, 0, 0, 0) := by rfl
theorem ft_103_326 : ft_m 103 326 = some (.lconst 0, 327, 0, 0, 0, 0, 0) := by rfl
theorem ft_103_327 : ft_m 103 327 = some (.goto 14, 330, 341, 0, 0, 0, 0) := by rfl
theorem ft_103_330 : ft_m 103 330 = some (.aload_n 0, 331, 0, 0, 0, 0, 0) := by rfl
theorem ft_103_331 : ft_m 103 331 = some (.getfield 21, 334, 8, 9, 741, 0, 0) := by rfl
theorem ft_103_334 : ft_m 103 334 = some (.bipush 9, 336, 0, 0, 0, 0, nI 9) := by rfl
theorem ft_103_336 : ft_m 103 336 = some (.iload_n 1, 337, 1, 0, 0, 0, 0) := by rfl
theorem ft_103_337 : ft_m 103 337 = some (.imul, 338, 0, 0, 0, 0, 0) := by rfl
theorem ft_103_338 : ft_m 103 338 = some (.iconst 1, 339, 0, 0, 0, 0, nI 1) := by rfl
theorem ft_103_339 : ft_m 103 339 = some (.isub, 340, 0, 0, 0, 0, 0) := by rfl
theorem ft_103_340 : ft_m 103 340 = some (.laload, 341, 0, 0, 0, 0, 0) := by rfl
theorem ft_103_341 : ft_m 103 341 = some (.lstore 18, 343, 18, 0, 0, 0, 0) := by rfl
theorem ft_103_343 : ft_m 103 343 = some (.aload_n 0, 344, 0, 0, 0, 0, 0) := by rfl
theorem ft_103_344 : ft_m 103 344 = some (.iload 5, 346, 5, 0, 0, 0, 0) := by rfl
theorem ft_103_346 : ft_m 103 346 = some (.lload 16, 348, 16, 0, 0, 0, 0) := by rfl
theorem ft_103_348 : ft_m 103 348 = some (.lload 18, 350, 18, 0, 0, 0, 0) := by rfl
theorem ft_103_350 : ft_m 103 350 = some (.lload 14, 352, 14, 0, 0, 0, 0) := by rfl
theorem ft_103_352 : ft_m 103 352 = some (.lload 12, 354, 12, 0, 0, 0, 0) := by rfl
theorem ft_103_354 : ft_m 103 354 = some (.aload_n 0, 355, 0, 0, 0, 0, 0) := by rfl
theorem ft_103_355 : ft_m 103 355 = some (.getfield 208, 358, 8, 27, 758, 0, 0) := by rfl
theorem ft_103_358 : ft_m 103 358 = some (.invokevirtual 170, 361, 93, 0, 922, 0, 0) := by rfl
theorem ft_103_361 : ft_m 103 361 = some (.ifCond .ne 5, 364, 366, 0, 0, 0, 0) := by rfl
theorem ft_103_364 : ft_m 103 364 = some (.iconst 5, 365, 0, 0, 0, 0, nI 5) := by rfl
theorem ft_103_365 : ft_m 103 365 = some (.ireturn, 366, 0, 0, 0, 0, 0) := by rfl
theorem ft_103_366 : ft_m 103 366 = some (.aload_n 0, 367, 0, 0, 0, 0, 0) := by rfl
theorem ft_103_367 : ft_m 103 367 = some (.getfield 21, 370, 8, 9, 741, 0, 0) := by rfl
theorem ft_103_370 : ft_m 103 370 = some (.bipush 9, 372, 0, 0, 0, 0, nI 9) := by rfl
theorem ft_103_372 : ft_m 103 372 = some (.iload_n 1, 373, 1, 0, 0, 0, 0) := by rfl
theorem ft_103_373 : ft_m 103 373 = some (.imul, 374, 0, 0, 0, 0, 0) := by rfl
theorem ft_103_374 : ft_m 103 374 = some (.bipush 6, 376, 0, 0, 0, 0, nI 6) := by rfl
theorem ft_103_376 : ft_m 103 376 = some (.iadd, 377, 0, 0, 0, 0, 0) := by rfl
theorem ft_103_377 : ft_m 103 377 = some (.laload, 378, 0, 0, 0, 0, 0) := by rfl
theorem ft_103_378 : ft_m 103 378 = some (.lstore 20, 380, 20, 0, 0, 0, 0) := by rfl
theorem ft_103_380 : ft_m 103 380 = some (.lload 20, 382, 20, 0, 0, 0, 0) := by rfl
theorem ft_103_382 : ft_m 103 382 = some (.lconst 0, 383, 0, 0, 0, 0, 0) := by rfl
theorem ft_103_383 : ft_m 103 383 = some (.ldc2_w 229, 386, 0, 0, 971, 12, 0) := by rfl
theorem ft_103_386 : ft_m 103 386 = some (.invokestatic 70, 389, 75, 0, 838, 0, 0) := by rfl
theorem ft_103_389 : ft_m 103 389 = some (.ifCond .ne 6, 392, 395, 0, 0, 0, 0) := by rfl
theorem ft_103_392 : ft_m 103 392 = some (.bipush 6, 394, 0, 0, 0, 0, nI 6) := by rfl
theorem ft_103_394 : ft_m 103 394 = some (.ireturn, 395, 0, 0, 0, 0, 0) := by rfl
theorem ft_103_395 : ft_m 103 395 = some (.aload_n 0, 396, 0, 0, 0, 0, 0) := by rfl
theorem ft_103_396 : ft_m 103 396 = some (.lload 20, 398, 20, 0, 0, 0, 0) := by rfl
theorem ft_103_398 : ft_m 103 398 = some (.l2i, 399, 0, 0, 0, 0, 0) := by rfl
theorem ft_103_399 : ft_m 103 399 = some (.invokevirtual 174, 402, 96, 0, 937, 0, 0) := by rfl
theorem ft_103_402 : ft_m 103 402 = some (.aload_n 0, 403, 0, 0, 0, 0, 0) := by rfl
theorem ft_103_403 : ft_m 103 403 = some (.getfield 21, 406, 8, 9, 741, 0, 0) := by rfl
theorem ft_103_406 : ft_m 103 406 = some (.bipush 9, 408, 0, 0, 0, 0, nI 9) := by rfl
theorem ft_103_408 : ft_m 103 408 = some (.iload_n 1, 409, 1, 0, 0, 0, 0) := by rfl
theorem ft_103_409 : ft_m 103 409 = some (.imul, 410, 0, 0, 0, 0, 0) := by rfl
theorem ft_103_410 : ft_m 103 410 = some (.bipush 7, 412, 0, 0, 0, 0, nI 7) := by rfl
theorem ft_103_412 : ft_m 103 412 = some (.iadd, 413, 0, 0, 0, 0, 0) := by rfl
theorem ft_103_413 : ft_m 103 413 = some (.laload, 414, 0, 0, 0, 0, 0) := by rfl
theorem ft_103_414 : ft_m 103 414 = some (.lstore 22, 416, 22, 0, 0, 0, 0) := by rfl
theorem ft_103_416 : ft_m 103 416 = some (.aload_n 0, 417, 0, 0, 0, 0, 0) := by rfl
theorem ft_103_417 : ft_m 103 417 = some (.getfield 21, 420, 8, 9, 741, 0, 0) := by rfl
theorem ft_103_420 : ft_m 103 420 = some (.bipush 9, 422, 0, 0, 0, 0, nI 9) := by rfl
theorem ft_103_422 : ft_m 103 422 = some (.iload_n 1, 423, 1, 0, 0, 0, 0) := by rfl
theorem ft_103_423 : ft_m 103 423 = some (.imul, 424, 0, 0, 0, 0, 0) := by rfl
theorem ft_103_424 : ft_m 103 424 = some (.bipush 8, 426, 0, 0, 0, 0, nI 8) := by rfl
theorem ft_103_426 : ft_m 103 426 = some (.iadd, 427, 0, 0, 0, 0, 0) := by rfl
theorem ft_103_427 : ft_m 103 427 = some (.laload, 428, 0, 0, 0, 0, 0) := by rfl
theorem ft_103_428 : ft_m 103 428 = some (.lstore 24, 430, 24, 0, 0, 0, 0) := by rfl
theorem ft_103_430 : ft_m 103 430 = some (.lload 22, 432, 22, 0, 0, 0, 0) := by rfl
theorem ft_103_432 : ft_m 103 432 = some (.aload_n 0, 433, 0, 0, 0, 0, 0) := by rfl
theorem ft_103_433 : ft_m 103 433 = some (.getfield 151, 436, 8, 19, 751, 0, 0) := by rfl
theorem ft_103_436 : ft_m 103 436 = some (.lcmp, 437, 0, 0, 0, 0, 0) := by rfl
theorem ft_103_437 : ft_m 103 437 = some (.ifCond .lt 30, 440, 467, 0, 0, 0, 0) := by rfl
theorem ft_103_440 : ft_m 103 440 = some (.lload 24, 442, 24, 0, 0, 0, 0) := by rfl
theorem ft_103_442 : ft_m 103 442 = some (.aload_n 0, 443, 0, 0, 0, 0, 0) := by rfl
theorem ft_103_443 : ft_m 103 443 = some (.getfield 157, 446, 8, 20, 752, 0, 0) := by rfl
theorem ft_103_446 : ft_m 103 446 = some (.lcmp, 447, 0, 0, 0, 0, 0) := by rfl
theorem ft_103_447 : ft_m 103 447 = some (.ifCond .lt 20, 450, 467, 0, 0, 0, 0) := by rfl
theorem ft_103_450 : ft_m 103 450 = some (.lload 22, 452, 22, 0, 0, 0, 0) := by rfl
theorem ft_103_452 : ft_m 103 452 = some (.lload 24, 454, 24, 0, 0, 0, 0) := by rfl
theorem ft_103_454 : ft_m 103 454 = some (.ladd, 455, 0, 0, 0, 0, 0) := by rfl
theorem ft_103_455 : ft_m 103 455 = some (.lconst 1, 456, 0, 0, 0, 1, 0) := by rfl
theorem ft_103_456 : ft_m 103 456 = some (.aload_n 0, 457, 0, 0, 0, 0, 0) := by rfl
theorem ft_103_457 : ft_m 103 457 = some (.getfield 202, 460, 8, 5, 737, 0, 0) := by rfl
theorem ft_103_460 : ft_m 103 460 = some (.iconst 1, 461, 0, 0, 0, 0, nI 1) := by rfl
theorem ft_103_461 : ft_m 103 461 = some (.isub, 462, 0, 0, 0, 0, 0) := by rfl
theorem ft_103_462 : ft_m 103 462 = some (.lshl, 463, 0, 0, 0, 0, 0) := by rfl
theorem ft_103_463 : ft_m 103 463 = some (.lcmp, 464, 0, 0, 0, 0, 0) := by rfl
theorem ft_103_464 : ft_m 103 464 = some (.ifCond .lt 6, 467, 470, 0, 0, 0, 0) := by rfl
theorem ft_103_467 : ft_m 103 467 = some (.bipush 6, 469, 0, 0, 0, 0, nI 6) := by rfl
theorem ft_103_469 : ft_m 103 469 = some (.ireturn, 470, 0, 0, 0, 0, 0) := by rfl
theorem ft_103_470 : ft_m 103 470 = some (.aload_n 0, 471, 0, 0, 0, 0, 0) := by rfl
theorem ft_103_471 : ft_m 103 471 = some (.getfield 195, 474, 8, 7, 739, 0, 0) := by rfl
theorem ft_103_474 : ft_m 103 474 = some (.i2l, 475, 0, 0, 0, 0, 0) := by rfl
theorem ft_103_475 : ft_m 103 475 = some (.lstore 26, 477, 26, 0, 0, 0, 0) := by rfl
theorem ft_103_477 : ft_m 103 477 = some (.iconst 0, 478, 0, 0, 0, 0, nI 0) := by rfl
theorem ft_103_478 : ft_m 103 478 = some (.istore 28, 480, 28, 0, 0, 0, 0) := by rfl
theorem ft_103_480 : ft_m 103 480 = some (.iload 28, 482, 28, 0, 0, 0, 0) := by rfl
theorem ft_103_482 : ft_m 103 482 = some (.aload_n 0, 483, 0, 0, 0, 0, 0) := by rfl
theorem ft_103_483 : ft_m 103 483 = some (.getfield 66, 486, 8, 0, 732, 0, 0) := by rfl
theorem ft_103_486 : ft_m 103 486 = some (.if_icmp .ge 27, 489, 513, 0, 0, 0, 0) := by rfl
theorem ft_103_489 : ft_m 103 489 = some (.lload 26, 491, 26, 0, 0, 0, 0) := by rfl
theorem ft_103_491 : ft_m 103 491 = some (.aload_n 0, 492, 0, 0, 0, 0, 0) := by rfl
theorem ft_103_492 : ft_m 103 492 = some (.getfield 21, 495, 8, 9, 741, 0, 0) := by rfl
theorem ft_103_495 : ft_m 103 495 = some (.bipush 9, 497, 0, 0, 0, 0, nI 9) := by rfl
theorem ft_103_497 : ft_m 103 497 = some (.iload 28, 499, 28, 0, 0, 0, 0) := by rfl
theorem ft_103_499 : ft_m 103 499 = some (.imul, 500, 0, 0, 0, 0, 0) := by rfl
theorem ft_103_500 : ft_m 103 500 = some (.bipush 6, 502, 0, 0, 0, 0, nI 6) := by rfl
theorem ft_103_502 : ft_m 103 502 = some (.iadd, 503, 0, 0, 0, 0, 0) := by rfl
theorem ft_103_503 : ft_m 103 503 = some (.laload, 504, 0, 0, 0, 0, 0) := by rfl
theorem ft_103_504 : ft_m 103 504 = some (.lsub, 505, 0, 0, 0, 0, 0) := by rfl
theorem ft_103_505 : ft_m 103 505 = some (.lstore 26, 507, 26, 0, 0, 0, 0) := by rfl
theorem ft_103_507 : ft_m 103 507 = some (.iinc 28 1, 510, 28, 0, 0, 0, nI 1) := by rfl
theorem ft_103_510 : ft_m 103 510 = some (.goto (-30), 513, 480, 0, 0, 0, 0) := by rfl
theorem ft_103_513 : ft_m 103 513 = some (.iload_n 1, 514, 1, 0, 0, 0, 0) := by rfl
theorem ft_103_514 : ft_m 103 514 = some (.aload_n 0, 515, 0, 0, 0, 0, 0) := by rfl
theorem ft_103_515 : ft_m 103 515 = some (.getfield 66, 518, 8, 0, 732, 0, 0) := by rfl
theorem ft_103_518 : ft_m 103 518 = some (.iconst 1, 519, 0, 0, 0, 0, nI 1) := by rfl
theorem ft_103_519 : ft_m 103 519 = some (.isub, 520, 0, 0, 0, 0, 0) := by rfl
theorem ft_103_520 : ft_m 103 520 = some (.if_icmp .ne 19, 523, 539, 0, 0, 0, 0) := by rfl
theorem ft_103_523 : ft_m 103 523 = some (.lload 26, 525, 26, 0, 0, 0, 0) := by rfl
theorem ft_103_525 : ft_m 103 525 = some (.aload_n 0, 526, 0, 0, 0, 0, 0) := by rfl
theorem ft_103_526 : ft_m 103 526 = some (.getfield 192, 529, 8, 26, 757, 0, 0) := by rfl
theorem ft_103_529 : ft_m 103 529 = some (.i2l, 530, 0, 0, 0, 0, 0) := by rfl
theorem ft_103_530 : ft_m 103 530 = some (.lcmp, 531, 0, 0, 0, 0, 0) := by rfl
theorem ft_103_531 : ft_m 103 531 = some (.ifCond .eq 8, 534, 539, 0, 0, 0, 0) := by rfl
theorem ft_103_534 : ft_m 103 534 = some (.bipush 7, 536, 0, 0, 0, 0, nI 7) := by rfl
theorem ft_103_536 : ft_m 103 536 = some (.goto 4, 539, 540, 0, 0, 0, 0) := by rfl
theorem ft_103_539 : ft_m 103 539 = some (.iconst 0, 540, 0, 0, 0, 0, nI 0) := by rfl
theorem ft_103_540 : ft_m 103 540 = some (.ireturn, 541, 0, 0, 0, 0, 0) := by rfl
theorem ft_104_0 : ft_m 104 0 = some (.aload_n 0, 1, 0, 0, 0, 0, 0) := by rfl
theorem ft_104_1 : ft_m 104 1 = some (.getfield 78, 4, 8, 4, 736, 0, 0) := by rfl
theorem ft_104_4 : ft_m 104 4 = some (.ifCond .ne 5, 7, 9, 0, 0, 0, 0) := by rfl
theorem ft_104_7 : ft_m 104 7 = some (.iconst (-1), 8, 0, 0, 0, 0, (-1)) := by rfl
theorem ft_104_8 : ft_m 104 8 = some (.ireturn, 9, 0, 0, 0, 0, 0) := by rfl
theorem ft_104_9 : ft_m 104 9 = some (.iload_n 1, 10, 1, 0, 0, 0, 0) := by rfl
theorem ft_104_10 : ft_m 104 10 = some (.ifCond .ne 10, 13, 20, 0, 0, 0, 0) := by rfl
theorem ft_104_13 : ft_m 104 13 = some (.aload_n 0, 14, 0, 0, 0, 0, 0) := by rfl
theorem ft_104_14 : ft_m 104 14 = some (.getfield 195, 17, 8, 7, 739, 0, 0) := by rfl
theorem ft_104_17 : ft_m 104 17 = some (.goto 77, 20, 94, 0, 0, 0, 0) := by rfl
theorem ft_104_20 : ft_m 104 20 = some (.iload_n 1, 21, 1, 0, 0, 0, 0) := by rfl
theorem ft_104_21 : ft_m 104 21 = some (.iconst 1, 22, 0, 0, 0, 0, nI 1) := by rfl
theorem ft_104_22 : ft_m 104 22 = some (.if_icmp .ne 10, 25, 32, 0, 0, 0, 0) := by rfl
theorem ft_104_25 : ft_m 104 25 = some (.aload_n 0, 26, 0, 0, 0, 0, 0) := by rfl
theorem ft_104_26 : ft_m 104 26 = some (.getfield 202, 29, 8, 5, 737, 0, 0) := by rfl
theorem ft_104_29 : ft_m 104 29 = some (.goto 65, 32, 94, 0, 0, 0, 0) := by rfl
theorem ft_104_32 : ft_m 104 32 = some (.iload_n 1, 33, 1, 0, 0, 0, 0) := by rfl
theorem ft_104_33 : ft_m 104 33 = some (.iconst 2, 34, 0, 0, 0, 0, nI 2) := by rfl
theorem ft_104_34 : ft_m 104 34 = some (.if_icmp .ne 10, 37, 44, 0, 0, 0, 0) := by rfl
theorem ft_104_37 : ft_m 104 37 = some (.aload_n 0, 38, 0, 0, 0, 0, 0) := by rfl
theorem ft_104_38 : ft_m 104 38 = some (.getfield 205, 41, 8, 6, 738, 0, 0) := by rfl
theorem ft_104_41 : ft_m 104 41 = some (.goto 53, 44, 94, 0, 0, 0, 0) := by rfl
theorem ft_104_44 : ft_m 104 44 = some (.iload_n 1, 45, 1, 0, 0, 0, 0) := by rfl
theorem ft_104_45 : ft_m 104 45 = some (.iconst 3, 46, 0, 0, 0, 0, nI 3) := by rfl
theorem ft_104_46 : ft_m 104 46 = some (.if_icmp .ne 10, 49, 56, 0, 0, 0, 0) := by rfl
theorem ft_104_49 : ft_m 104 49 = some (.aload_n 0, 50, 0, 0, 0, 0, 0) := by rfl
theorem ft_104_50 : ft_m 104 50 = some (.getfield 208, 53, 8, 27, 758, 0, 0) := by rfl
theorem ft_104_53 : ft_m 104 53 = some (.goto 41, 56, 94, 0, 0, 0, 0) := by rfl
theorem ft_104_56 : ft_m 104 56 = some (.iload_n 1, 57, 1, 0, 0, 0, 0) := by rfl
theorem ft_104_57 : ft_m 104 57 = some (.iconst 4, 58, 0, 0, 0, 0, nI 4) := by rfl
theorem ft_104_58 : ft_m 104 58 = some (.if_icmp .ne 10, 61, 68, 0, 0, 0, 0) := by rfl
theorem ft_104_61 : ft_m 104 61 = some (.aload_n 0, 62, 0, 0, 0, 0, 0) := by rfl
theorem ft_104_62 : ft_m 104 62 = some (.getfield 192, 65, 8, 26, 757, 0, 0) := by rfl
theorem ft_104_65 : ft_m 104 65 = some (.goto 29, 68, 94, 0, 0, 0, 0) := by rfl
theorem ft_104_68 : ft_m 104 68 = some (.iload_n 1, 69, 1, 0, 0, 0, 0) := by rfl
theorem ft_104_69 : ft_m 104 69 = some (.iconst 5, 70, 0, 0, 0, 0, nI 5) := by rfl
theorem ft_104_70 : ft_m 104 70 = some (.if_icmp .ne 10, 73, 80, 0, 0, 0, 0) := by rfl
theorem ft_104_73 : ft_m 104 73 = some (.aload_n 0, 74, 0, 0, 0, 0, 0) := by rfl
theorem ft_104_74 : ft_m 104 74 = some (.getfield 214, 77, 8, 8, 740, 0, 0) := by rfl
theorem ft_104_77 : ft_m 104 77 = some (.goto 17, 80, 94, 0, 0, 0, 0) := by rfl
theorem ft_104_80 : ft_m 104 80 = some (.iload_n 1, 81, 1, 0, 0, 0, 0) := by rfl
theorem ft_104_81 : ft_m 104 81 = some (.bipush 6, 83, 0, 0, 0, 0, nI 6) := by rfl
theorem ft_104_83 : ft_m 104 83 = some (.if_icmp .ne 10, 86, 93, 0, 0, 0, 0) := by rfl
theorem ft_104_86 : ft_m 104 86 = some (.aload_n 0, 87, 0, 0, 0, 0, 0) := by rfl
theorem ft_104_87 : ft_m 104 87 = some (.getfield 185, 90, 8, 25, 756, 0, 0) := by rfl
theorem ft_104_90 : ft_m 104 90 = some (.goto 4, 93, 94, 0, 0, 0, 0) := by rfl
theorem ft_104_93 : ft_m 104 93 = some (.iconst (-1), 94, 0, 0, 0, 0, (-1)) := by rfl
theorem ft_104_94 : ft_m 104 94 = some (.ireturn, 95, 0, 0, 0, 0, 0) := by rfl
theorem ft_105_0 : ft_m 105 0 = some (.aload_n 0, 1, 0, 0, 0, 0, 0) := by rfl
theorem ft_105_1 : ft_m 105 1 = some (.getfield 78, 4, 8, 4, 736, 0, 0) := by rfl
theorem ft_105_4 : ft_m 105 4 = some (.ifCond .ne 7, 7, 11, 0, 0, 0, 0) := by rfl
theorem ft_105_7 : ft_m 105 7 = some (.ldc2_w 142, 10, 0, 0, 904, (-1), 0) := by rfl
theorem ft_105_10 : ft_m 105 10 = some (.lreturn, 11, 0, 0, 0, 0, 0) := by rfl
theorem ft_105_11 : ft_m 105 11 = some (.iload_n 1, 12, 1, 0, 0, 0, 0) := by rfl
theorem ft_105_12 : ft_m 105 12 = some (.i2l, 13, 0, 0, 0, 0, 0) := by rfl
theorem ft_105_13 : ft_m 105 13 = some (.invokestatic 96, 16, 79, 0, 854, 0, 0) := by rfl
theorem ft_105_16 : ft_m 105 16 = some (.lconst 1, 17, 0, 0, 0, 1, 0) := by rfl
theorem ft_105_17 : ft_m 105 17 = some (.aload_n 0, 18, 0, 0, 0, 0, 0) := by rfl
theorem ft_105_18 : ft_m 105 18 = some (.getfield 205, 21, 8, 6, 738, 0, 0) := by rfl
theorem ft_105_21 : ft_m 105 21 = some (.iconst 1, 22, 0, 0, 0, 0, nI 1) := by rfl
theorem ft_105_22 : ft_m 105 22 = some (.isub, 23, 0, 0, 0, 0, 0) := by rfl
theorem ft_105_23 : ft_m 105 23 = some (.lshl, 24, 0, 0, 0, 0, 0) := by rfl
theorem ft_105_24 : ft_m 105 24 = some (.lcmp, 25, 0, 0, 0, 0, 0) := by rfl
theorem ft_105_25 : ft_m 105 25 = some (.ifCond .le 7, 28, 32, 0, 0, 0, 0) := by rfl
theorem ft_105_28 : ft_m 105 28 = some (.ldc2_w 231, 31, 0, 0, 980, (-2), 0) := by rfl
theorem ft_105_31 : ft_m 105 31 = some (.lreturn, 32, 0, 0, 0, 0, 0) := by rfl
theorem ft_105_32 : ft_m 105 32 = some (.aload_n 0, 33, 0, 0, 0, 0, 0) := by rfl
theorem ft_105_33 : ft_m 105 33 = some (.dup, 34, 0, 0, 0, 0, 0) := by rfl
theorem ft_105_34 : ft_m 105 34 = some (.getfield 214, 37, 8, 8, 740, 0, 0) := by rfl
theorem ft_105_37 : ft_m 105 37 = some (.iconst 1, 38, 0, 0, 0, 0, nI 1) := by rfl
theorem ft_105_38 : ft_m 105 38 = some (.iadd, 39, 0, 0, 0, 0, 0) := by rfl
theorem ft_105_39 : ft_m 105 39 = some (.putfield 214, 42, 8, 8, 740, 0, 0) := by rfl
theorem ft_105_42 : ft_m 105 42 = some (.iload_n 1, 43, 1, 0, 0, 0, 0) := by rfl
theorem ft_105_43 : ft_m 105 43 = some (.i2l, 44, 0, 0, 0, 0, 0) := by rfl
theorem ft_105_44 : ft_m 105 44 = some (.aload_n 0, 45, 0, 0, 0, 0, 0) := by rfl
theorem ft_105_45 : ft_m 105 45 = some (.getfield 195, 48, 8, 7, 739, 0, 0) := by rfl
theorem ft_105_48 : ft_m 105 48 = some (.lshl, 49, 0, 0, 0, 0, 0) := by rfl
theorem ft_105_49 : ft_m 105 49 = some (.lstore_n 2, 50, 2, 0, 0, 0, 0) := by rfl
theorem ft_105_50 : ft_m 105 50 = some (.iconst 0, 51, 0, 0, 0, 0, nI 0) := by rfl
theorem ft_105_51 : ft_m 105 51 = some (.istore 4, 53, 4, 0, 0, 0, 0) := by rfl
theorem ft_105_53 : ft_m 105 53 = some (.iload 4, 55, 4, 0, 0, 0, 0) := by rfl
theorem ft_105_55 : ft_m 105 55 = some (.aload_n 0, 56, 0, 0, 0, 0, 0) := by rfl
theorem ft_105_56 : ft_m 105 56 = some (.getfield 66, 59, 8, 0, 732, 0, 0) := by rfl
theorem ft_105_59 : ft_m 105 59 = some (.if_icmp .ge 244, 62, 303, 0, 0, 0, 0) := by rfl
theorem ft_105_62 : ft_m 105 62 = some (.iconst 5, 63, 0, 0, 0, 0, nI 5) := by rfl
theorem ft_105_63 : ft_m 105 63 = some (.aload_n 0, 64, 0, 0, 0, 0, 0) := by rfl
theorem ft_105_64 : ft_m 105 64 = some (.getfield 24, 67, 8, 10, 742, 0, 0) := by rfl
theorem ft_105_67 : ft_m 105 67 = some (.iload 4, 69, 4, 0, 0, 0, 0) := by rfl
theorem ft_105_69 : ft_m 105 69 = some (.iaload, 70, 0, 0, 0, 0, 0) := by rfl
theorem ft_105_70 : ft_m 105 70 = some (.imul, 71, 0, 0, 0, 0, 0) := by rfl
theorem ft_105_71 : ft_m 105 71 = some (.istore 5, 73, 5, 0, 0, 0, 0) := by rfl
theorem ft_105_73 : ft_m 105 73 = some (.iconst 5, 74, 0, 0, 0, 0, nI 5) := by rfl
theorem ft_105_74 : ft_m 105 74 = some (.iload 4, 76, 4, 0, 0, 0, 0) := by rfl
theorem ft_105_76 : ft_m 105 76 = some (.imul, 77, 0, 0, 0, 0, 0) := by rfl
theorem ft_105_77 : ft_m 105 77 = some (.istore 6, 79, 6, 0, 0, 0, 0) := by rfl
theorem ft_105_79 : ft_m 105 79 = some (.aload_n 0, 80, 0, 0, 0, 0, 0) := by rfl
theorem ft_105_80 : ft_m 105 80 = some (.getfield 7, 83, 8, 1, 733, 0, 0) := by rfl
theorem ft_105_83 : ft_m 105 83 = some (.iload 5, 85, 5, 0, 0, 0, 0) := by rfl
theorem ft_105_85 : ft_m 105 85 = some (.iaload, 86, 0, 0, 0, 0, 0) := by rfl
theorem ft_105_86 : ft_m 105 86 = some (.i2l, 87, 0, 0, 0, 0, 0) := by rfl
theorem ft_105_87 : ft_m 105 87 = some (.lload_n 2, 88, 2, 0, 0, 0, 0) := by rfl
theorem ft_105_88 : ft_m 105 88 = some (.lmul, 89, 0, 0, 0, 0, 0) := by rfl
theorem ft_105_89 : ft_m 105 89 = some (.aload_n 0, 90, 0, 0, 0, 0, 0) := by rfl
theorem ft_105_90 : ft_m 105 90 = some (.getfield 7, 93, 8, 1, 733, 0, 0) := by rfl
theorem ft_105_93 : ft_m 105 93 = some (.iload 5, 95, 5, 0, 0, 0, 0) := by rfl
theorem ft_105_95 : ft_m 105 95 = some (.iconst 1, 96, 0, 0, 0, 0, nI 1) := by rfl
theorem ft_105_96 : ft_m 105 96 = some (.iadd, 97, 0, 0, 0, 0, 0) := by rfl
theorem ft_105_97 : ft_m 105 97 = some (.iaload, 98, 0, 0, 0, 0, 0) := by rfl
theorem ft_105_98 : ft_m 105 98 = some (.i2l, 99, 0, 0, 0, 0, 0) := by rfl
theorem ft_105_99 : ft_m 105 99 = some (.aload_n 0, 100, 0, 0, 0, 0, 0) := by rfl
theorem ft_105_100 : ft_m 105 100 = some (.getfield 27, 103, 8, 11, 743, 0, 0) := by rfl
theorem ft_105_103 : ft_m 105 103 = some (.iload 6, 105, 6, 0, 0, 0, 0) := by rfl
theorem ft_105_105 : ft_m 105 105 = some (.laload, 106, 0, 0, 0, 0, 0) := by rfl
theorem ft_105_106 : ft_m 105 106 = some (.lmul, 107, 0, 0, 0, 0, 0) := by rfl
theorem ft_105_107 : ft_m 105 107 = some (.ladd, 108, 0, 0, 0, 0, 0) := by rfl
theorem ft_105_108 : ft_m 105 108 = some (.aload_n 0, 109, 0, 0, 0, 0, 0) := by rfl
theorem ft_105_109 : ft_m 105 109 = some (.getfield 7, 112, 8, 1, 733, 0, 0) := by rfl
theorem ft_105_112 : ft_m 105 112 = some (.iload 5, 114, 5, 0, 0, 0, 0) := by rfl
theorem ft_105_114 : ft_m 105 114 = some (.iconst 2, 115, 0, 0, 0, 0, nI 2) := by rfl
theorem ft_105_115 : ft_m 105 115 = some (.iadd, 116, 0, 0, 0, 0, 0) := by rfl
theorem ft_105_116 : ft_m 105 116 = some (.iaload, 117, 0, 0, 0, 0, 0) := by rfl
theorem ft_105_117 : ft_m 105 117 = some (.i2l, 118, 0, 0, 0, 0, 0) := by rfl
theorem ft_105_118 : ft_m 105 118 = some (.aload_n 0, 119, 0, 0, 0, 0, 0) := by rfl
theorem ft_105_119 : ft_m 105 119 = some (.getfield 27, 122, 8, 11, 743, 0, 0) := by rfl
theorem ft_105_122 : ft_m 105 122 = some (.iload 6, 124, 6, 0, 0, 0, 0) := by rfl
theorem ft_105_124 : ft_m 105 124 = some (.iconst 1, 125, 0, 0, 0, 0, nI 1) := by rfl
theorem ft_105_125 : ft_m 105 125 = some (.iadd, 126, 0, 0, 0, 0, 0) := by rfl
theorem ft_105_126 : ft_m 105 126 = some (.laload, 127, 0, 0, 0, 0, 0) := by rfl
theorem ft_105_127 : ft_m 105 127 = some (.lmul, 128, 0, 0, 0, 0, 0) := by rfl
theorem ft_105_128 : ft_m 105 128 = some (.ladd, 129, 0, 0, 0, 0, 0) := by rfl
theorem ft_105_129 : ft_m 105 129 = some (.aload_n 0, 130, 0, 0, 0, 0, 0) := by rfl
theorem ft_105_130 : ft_m 105 130 = some (.getfield 7, 133, 8, 1, 733, 0, 0) := by rfl
theorem ft_105_133 : ft_m 105 133 = some (.iload 5, 135, 5, 0, 0, 0, 0) := by rfl
theorem ft_105_135 : ft_m 105 135 = some (.iconst 3, 136, 0, 0, 0, 0, nI 3) := by rfl
theorem ft_105_136 : ft_m 105 136 = some (.iadd, 137, 0, 0, 0, 0, 0) := by rfl
theorem ft_105_137 : ft_m 105 137 = some (.iaload, 138, 0, 0, 0, 0, 0) := by rfl
theorem ft_105_138 : ft_m 105 138 = some (.i2l, 139, 0, 0, 0, 0, 0) := by rfl
theorem ft_105_139 : ft_m 105 139 = some (.aload_n 0, 140, 0, 0, 0, 0, 0) := by rfl
theorem ft_105_140 : ft_m 105 140 = some (.getfield 27, 143, 8, 11, 743, 0, 0) := by rfl
theorem ft_105_143 : ft_m 105 143 = some (.iload 6, 145, 6, 0, 0, 0, 0) := by rfl
theorem ft_105_145 : ft_m 105 145 = some (.iconst 2, 146, 0, 0, 0, 0, nI 2) := by rfl
theorem ft_105_146 : ft_m 105 146 = some (.iadd, 147, 0, 0, 0, 0, 0) := by rfl
theorem ft_105_147 : ft_m 105 147 = some (.laload, 148, 0, 0, 0, 0, 0) := by rfl
theorem ft_105_148 : ft_m 105 148 = some (.lmul, 149, 0, 0, 0, 0, 0) := by rfl
theorem ft_105_149 : ft_m 105 149 = some (.lsub, 150, 0, 0, 0, 0, 0) := by rfl
theorem ft_105_150 : ft_m 105 150 = some (.aload_n 0, 151, 0, 0, 0, 0, 0) := by rfl
theorem ft_105_151 : ft_m 105 151 = some (.getfield 7, 154, 8, 1, 733, 0, 0) := by rfl
theorem ft_105_154 : ft_m 105 154 = some (.iload 5, 156, 5, 0, 0, 0, 0) := by rfl
theorem ft_105_156 : ft_m 105 156 = some (.iconst 4, 157, 0, 0, 0, 0, nI 4) := by rfl
theorem ft_105_157 : ft_m 105 157 = some (.iadd, 158, 0, 0, 0, 0, 0) := by rfl
theorem ft_105_158 : ft_m 105 158 = some (.iaload, 159, 0, 0, 0, 0, 0) := by rfl
theorem ft_105_159 : ft_m 105 159 = some (.i2l, 160, 0, 0, 0, 0, 0) := by rfl
theorem ft_105_160 : ft_m 105 160 = some (.aload_n 0, 161, 0, 0, 0, 0, 0) := by rfl
theorem ft_105_161 : ft_m 105 161 = some (.getfield 27, 164, 8, 11, 743, 0, 0) := by rfl
theorem ft_105_164 : ft_m 105 164 = some (.iload 6, 166, 6, 0, 0, 0, 0) := by rfl
theorem ft_105_166 : ft_m 105 166 = some (.iconst 3, 167, 0, 0, 0, 0, nI 3) := by rfl
theorem ft_105_167 : ft_m 105 167 = some (.iadd, 168, 0, 0, 0, 0, 0) := by rfl
theorem ft_105_168 : ft_m 105 168 = some (.laload, 169, 0, 0, 0, 0, 0) := by rfl
theorem ft_105_169 : ft_m 105 169 = some (.lmul, 170, 0, 0, 0, 0, 0) := by rfl
theorem ft_105_170 : ft_m 105 170 = some (.lsub, 171, 0, 0, 0, 0, 0) := by rfl
theorem ft_105_171 : ft_m 105 171 = some (.aload_n 0, 172, 0, 0, 0, 0, 0) := by rfl
theorem ft_105_172 : ft_m 105 172 = some (.getfield 208, 175, 8, 27, 758, 0, 0) := by rfl
theorem ft_105_175 : ft_m 105 175 = some (.iconst 1, 176, 0, 0, 0, 0, nI 1) := by rfl
theorem ft_105_176 : ft_m 105 176 = some (.if_icmp .ne 15, 179, 191, 0, 0, 0, 0) := by rfl
theorem ft_105_179 : ft_m 105 179 = some (.aload_n 0, 180, 0, 0, 0, 0, 0) := by rfl
theorem ft_105_180 : ft_m 105 180 = some (.getfield 27, 183, 8, 11, 743, 0, 0) := by rfl
theorem ft_105_183 : ft_m 105 183 = some (.iload 6, 185, 6, 0, 0, 0, 0) := by rfl
theorem ft_105_185 : ft_m 105 185 = some (.iconst 4, 186, 0, 0, 0, 0, nI 4) := by rfl
theorem ft_105_186 : ft_m 105 186 = some (.iadd, 187, 0, 0, 0, 0, 0) := by rfl
theorem ft_105_187 : ft_m 105 187 = some (.laload, 188, 0, 0, 0, 0, 0) := by rfl
theorem ft_105_188 : ft_m 105 188 = some (.goto 18, 191, 206, 0, 0, 0, 0) := by rfl
theorem ft_105_191 : ft_m 105 191 = some (.aload_n 0, 192, 0, 0, 0, 0, 0) := by rfl
theorem ft_105_192 : ft_m 105 192 = some (.getfield 208, 195, 8, 27, 758, 0, 0) := by rfl
theorem ft_105_195 : ft_m 105 195 = some (.iconst 2, 196, 0, 0, 0, 0, nI 2) := by rfl
theorem ft_105_196 : ft_m 105 196 = some (.if_icmp .ne 9, 199, 205, 0, 0, 0, 0) := by rfl
theorem ft_105_199 : ft_m 105 199 = some (.ldc2_w 233, 202, 0, 0, 981, 8192, 0) := by rfl
theorem ft_105_202 : ft_m 105 202 = some (.goto 4, 205, 206, 0, 0, 0, 0) := by rfl
theorem ft_105_205 : ft_m 105 205 = some (.lconst 0, 206, 0, 0, 0, 0, 0) := by rfl
theorem ft_105_206 : ft_m 105 206 = some (.ladd, 207, 0, 0, 0, 0, 0) := by rfl
theorem ft_105_207 : ft_m 105 207 = some (.lstore 7, 209, 7, 0, 0, 0, 0) := by rfl
theorem ft_105_209 : ft_m 105 209 = some (.lload 7, 211, 7, 0, 0, 0, 0) := by rfl
theorem ft_105_211 : ft_m 105 211 = some (.bipush 14, 213, 0, 0, 0, 0, nI 14) := by rfl
theorem ft_105_213 : ft_m 105 213 = some (.lshr, 214, 0, 0, 0, 0, 0) := by rfl
theorem ft_105_214 : ft_m 105 214 = some (.lstore 9, 216, 9, 0, 0, 0, 0) := by rfl
theorem ft_105_216 : ft_m 105 216 = some (.aload_n 0, 217, 0, 0, 0, 0, 0) := by rfl
theorem ft_105_217 : ft_m 105 217 = some (.getfield 27, 220, 8, 11, 743, 0, 0) := by rfl
theorem ft_105_220 : ft_m 105 220 = some (.iload 6, 222, 6, 0, 0, 0, 0) := by rfl
theorem ft_105_222 : ft_m 105 222 = some (.iconst 1, 223, 0, 0, 0, 0, nI 1) := by rfl
theorem ft_105_223 : ft_m 105 223 = some (.iadd, 224, 0, 0, 0, 0, 0) := by rfl
theorem ft_105_224 : ft_m 105 224 = some (.aload_n 0, 225, 0, 0, 0, 0, 0) := by rfl
theorem ft_105_225 : ft_m 105 225 = some (.getfield 27, 228, 8, 11, 743, 0, 0) := by rfl
theorem ft_105_228 : ft_m 105 228 = some (.iload 6, 230, 6, 0, 0, 0, 0) := by rfl
theorem ft_105_230 : ft_m 105 230 = some (.laload, 231, 0, 0, 0, 0, 0) := by rfl
theorem ft_105_231 : ft_m 105 231 = some (.lastore, 232, 0, 0, 0, 0, 0) := by rfl
theorem ft_105_232 : ft_m 105 232 = some (.aload_n 0, 233, 0, 0, 0, 0, 0) := by rfl
theorem ft_105_233 : ft_m 105 233 = some (.getfield 27, 236, 8, 11, 743, 0, 0) := by rfl
theorem ft_105_236 : ft_m 105 236 = some (.iload 6, 238, 6, 0, 0, 0, 0) := by rfl
theorem ft_105_238 : ft_m 105 238 = some (.lload_n 2, 239, 2, 0, 0, 0, 0) := by rfl
theorem ft_105_239 : ft_m 105 239 = some (.lastore, 240, 0, 0, 0, 0, 0) := by rfl
theorem ft_105_240 : ft_m 105 240 = some (.aload_n 0, 241, 0, 0, 0, 0, 0) := by rfl
theorem ft_105_241 : ft_m 105 241 = some (.getfield 27, 244, 8, 11, 743, 0, 0) := by rfl
theorem ft_105_244 : ft_m 105 244 = some (.iload 6, 246, 6, 0, 0, 0, 0) := by rfl
theorem ft_105_246 : ft_m 105 246 = some (.iconst 3, 247, 0, 0, 0, 0, nI 3) := by rfl
theorem ft_105_247 : ft_m 105 247 = some (.iadd, 248, 0, 0, 0, 0, 0) := by rfl
theorem ft_105_248 : ft_m 105 248 = some (.aload_n 0, 249, 0, 0, 0, 0, 0) := by rfl
theorem ft_105_249 : ft_m 105 249 = some (.getfield 27, 252, 8, 11, 743, 0, 0) := by rfl
theorem ft_105_252 : ft_m 105 252 = some (.iload 6, 254, 6, 0, 0, 0, 0) := by rfl
theorem ft_105_254 : ft_m 105 254 = some (.iconst 2, 255, 0, 0, 0, 0, nI 2) := by rfl
theorem ft_105_255 : ft_m 105 255 = some (.iadd, 256, 0, 0, 0, 0, 0) := by rfl
theorem ft_105_256 : ft_m 105 256 = some (.laload, 257, 0, 0, 0, 0, 0) := by rfl
theorem ft_105_257 : ft_m 105 257 = some (.lastore, 258, 0, 0, 0, 0, 0) := by rfl
theorem ft_105_258 : ft_m 105 258 = some (.aload_n 0, 259, 0, 0, 0, 0, 0) := by rfl
theorem ft_105_259 : ft_m 105 259 = some (.getfield 27, 262, 8, 11, 743, 0, 0) := by rfl
theorem ft_105_262 : ft_m 105 262 = some (.iload 6, 264, 6, 0, 0, 0, 0) := by rfl
theorem ft_105_264 : ft_m 105 264 = some (.iconst 2, 265, 0, 0, 0, 0, nI 2) := by rfl
theorem ft_105_265 : ft_m 105 265 = some (.iadd, 266, 0, 0, 0, 0, 0) := by rfl
theorem ft_105_266 : ft_m 105 266 = some (.lload 9, 268, 9, 0, 0, 0, 0) := by rfl
theorem ft_105_268 : ft_m 105 268 = some (.lastore, 269, 0, 0, 0, 0, 0) := by rfl
theorem ft_105_269 : ft_m 105 269 = some (.aload_n 0, 270, 0, 0, 0, 0, 0) := by rfl
theorem ft_105_270 : ft_m 105 270 = some (.getfield 27, 273, 8, 11, 743, 0, 0) := by rfl
theorem ft_105_273 : ft_m 105 273 = some (.iload 6, 275, 6, 0, 0, 0, 0) := by rfl
theorem ft_105_275 : ft_m 105 275 = some (.iconst 4, 276, 0, 0, 0, 0, nI 4) := by rfl
theorem ft_105_276 : ft_m 105 276 = some (.iadd, 277, 0, 0, 0, 0, 0) := by rfl
theorem ft_105_277 : ft_m 105 277 = some (.lload 7, 279, 7, 0, 0, 0, 0) := by rfl
theorem ft_105_279 : ft_m 105 279 = some (.lload 9, 281, 9, 0, 0, 0, 0) := by rfl
theorem ft_105_281 : ft_m 105 281 = some (.bipush 14, 283, 0, 0, 0, 0, nI 14) := by rfl
theorem ft_105_283 : ft_m 105 283 = some (.lshl, 284, 0, 0, 0, 0, 0) := by rfl
theorem ft_105_284 : ft_m 105 284 = some (.lsub, 285, 0, 0, 0, 0, 0) := by rfl
theorem ft_105_285 : ft_m 105 285 = some (.lastore, 286, 0, 0, 0, 0, 0) := by rfl
theorem ft_105_286 : ft_m 105 286 = some (.lload 9, 288, 9, 0, 0, 0, 0) := by rfl
theorem ft_105_288 : ft_m 105 288 = some (.aload_n 0, 289, 0, 0, 0, 0, 0) := by rfl
theorem ft_105_289 : ft_m 105 289 = some (.getfield 54, 292, 8, 28, 759, 0, 0) := by rfl
theorem ft_105_292 : ft_m 105 292 = some (.iload 4, 294, 4, 0, 0, 0, 0) := by rfl
theorem ft_105_294 : ft_m 105 294 = some (.iaload, 295, 0, 0, 0, 0, 0) := by rfl
theorem ft_105_295 : ft_m 105 295 = some (.lshr, 296, 0, 0, 0, 0, 0) := by rfl
theorem ft_105_296 : ft_m 105 296 = some (.lstore_n 2, 297, 2, 0, 0, 0, 0) := by rfl
theorem ft_105_297 : ft_m 105 297 = some (.iinc 4 1, 300, 4, 0, 0, 0, nI 1) := by rfl
theorem ft_105_300 : ft_m 105 300 = some (.goto (-247), 303, 53, 0, 0, 0, 0) := by rfl
theorem ft_105_303 : ft_m 105 303 = some (.aload_n 0, 304, 0, 0, 0, 0, 0) := by rfl
theorem ft_105_304 : ft_m 105 304 = some (.lload_n 2, 305, 2, 0, 0, 0, 0) := by rfl
theorem ft_105_305 : ft_m 105 305 = some (.putfield 235, 308, 8, 29, 760, 0, 0) := by rfl
theorem ft_105_308 : ft_m 105 308 = some (.aload_n 0, 309, 0, 0, 0, 0, 0) := by rfl
theorem ft_105_309 : ft_m 105 309 = some (.getfield 214, 312, 8, 8, 740, 0, 0) := by rfl
theorem ft_105_312 : ft_m 105 312 = some (.bipush 33, 314, 0, 0, 0, 0, nI 33) := by rfl
theorem ft_105_314 : ft_m 105 314 = some (.if_icmp .ge 8, 317, 322, 0, 0, 0, 0) := by rfl
theorem ft_105_317 : ft_m 105 317 = some (.aload_n 0, 318, 0, 0, 0, 0, 0) := by rfl
theorem ft_105_318 : ft_m 105 318 = some (.iload_n 1, 319, 1, 0, 0, 0, 0) := by rfl
theorem ft_105_319 : ft_m 105 319 = some (.invokevirtual 238, 322, 106, 0, 982, 0, 0) := by rfl
theorem ft_105_322 : ft_m 105 322 = some (.lload_n 2, 323, 2, 0, 0, 0, 0) := by rfl
theorem ft_105_323 : ft_m 105 323 = some (.lreturn, 324, 0, 0, 0, 0, 0) := by rfl
theorem ft_106_0 : ft_m 106 0 = some (.iconst 0, 1, 0, 0, 0, 0, nI 0) := by rfl
theorem ft_106_1 : ft_m 106 1 = some (.istore_n 2, 2, 2, 0, 0, 0, 0) := by rfl
theorem ft_106_2 : ft_m 106 2 = some (.iload_n 2, 3, 2, 0, 0, 0, 0) := by rfl
theorem ft_106_3 : ft_m 106 3 = some (.bipush 66, 5, 0, 0, 0, 0, nI 66) := by rfl
theorem ft_106_5 : ft_m 106 5 = some (.if_icmp .ge 16, 8, 21, 0, 0, 0, 0) := by rfl
theorem ft_106_8 : ft_m 106 8 = some (.aload_n 0, 9, 0, 0, 0, 0, 0) := by rfl
theorem ft_106_9 : ft_m 106 9 = some (.getfield 60, 12, 8, 31, 762, 0, 0) := by rfl
theorem ft_106_12 : ft_m 106 12 = some (.iload_n 2, 13, 2, 0, 0, 0, 0) := by rfl
theorem ft_106_13 : ft_m 106 13 = some (.lconst 0, 14, 0, 0, 0, 0, 0) := by rfl
theorem ft_106_14 : ft_m 106 14 = some (.lastore, 15, 0, 0, 0, 0, 0) := by rfl
theorem ft_106_15 : ft_m 106 15 = some (.iinc 2 1, 18, 2, 0, 0, 0, nI 1) := by rfl
theorem ft_106_18 : ft_m 106 18 = some (.goto (-16), 21, 2, 0, 0, 0, 0) := by rfl
theorem ft_106_21 : ft_m 106 21 = some (.aload_n 0, 22, 0, 0, 0, 0, 0) := by rfl
theorem ft_106_22 : ft_m 106 22 = some (.getfield 60, 25, 8, 31, 762, 0, 0) := by rfl
theorem ft_106_25 : ft_m 106 25 = some (.aload_n 0, 26, 0, 0, 0, 0, 0) := by rfl
theorem ft_106_26 : ft_m 106 26 = some (.getfield 214, 29, 8, 8, 740, 0, 0) := by rfl
theorem ft_106_29 : ft_m 106 29 = some (.iconst 1, 30, 0, 0, 0, 0, nI 1) := by rfl
theorem ft_106_30 : ft_m 106 30 = some (.isub, 31, 0, 0, 0, 0, 0) := by rfl
theorem ft_106_31 : ft_m 106 31 = some (.iload_n 1, 32, 1, 0, 0, 0, 0) := by rfl
theorem ft_106_32 : ft_m 106 32 = some (.i2l, 33, 0, 0, 0, 0, 0) := by rfl
theorem ft_106_33 : ft_m 106 33 = some (.lastore, 34, 0, 0, 0, 0, 0) := by rfl
theorem ft_106_34 : ft_m 106 34 = some (.aload_n 0, 35, 0, 0, 0, 0, 0) := by rfl
theorem ft_106_35 : ft_m 106 35 = some (.aload_n 0, 36, 0, 0, 0, 0, 0) := by rfl
theorem ft_106_36 : ft_m 106 36 = some (.getfield 60, 39, 8, 31, 762, 0, 0) := by rfl
theorem ft_106_39 : ft_m 106 39 = some (.invokevirtual 241, 42, 107, 0, 986, 0, 0) := by rfl
theorem ft_106_42 : ft_m 106 42 = some (.iconst 0, 43, 0, 0, 0, 0, nI 0) := by rfl
theorem ft_106_43 : ft_m 106 43 = some (.istore_n 2, 44, 2, 0, 0, 0, 0) := by rfl
theorem ft_106_44 : ft_m 106 44 = some (.iload_n 2, 45, 2, 0, 0, 0, 0) := by rfl
theorem ft_106_45 : ft_m 106 45 = some (.aload_n 0, 46, 0, 0, 0, 0, 0) := by rfl
theorem ft_106_46 : ft_m 106 46 = some (.getfield 66, 49, 8, 0, 732, 0, 0) := by rfl
theorem ft_106_49 : ft_m 106 49 = some (.if_icmp .ge 268, 52, 317, 0, 0, 0, 0) := by rfl
theorem ft_106_52 : ft_m 106 52 = some (.iconst 5, 53, 0, 0, 0, 0, nI 5) := by rfl
theorem ft_106_53 : ft_m 106 53 = some (.aload_n 0, 54, 0, 0, 0, 0, 0) := by rfl
theorem ft_106_54 : ft_m 106 54 = some (.getfield 24, 57, 8, 10, 742, 0, 0) := by rfl
theorem ft_106_57 : ft_m 106 57 = some (.iload_n 2, 58, 2, 0, 0, 0, 0) := by rfl
theorem ft_106_58 : ft_m 106 58 = some (.iaload, 59, 0, 0, 0, 0, 0) := by rfl
theorem ft_106_59 : ft_m 106 59 = some (.imul, 60, 0, 0, 0, 0, 0) := by rfl
theorem ft_106_60 : ft_m 106 60 = some (.istore_n 3, 61, 3, 0, 0, 0, 0) := by rfl
theorem ft_106_61 : ft_m 106 61 = some (.iconst 0, 62, 0, 0, 0, 0, nI 0) := by rfl
theorem ft_106_62 : ft_m 106 62 = some (.istore 4, 64, 4, 0, 0, 0, 0) := by rfl
theorem ft_106_64 : ft_m 106 64 = some (.iload 4, 66, 4, 0, 0, 0, 0) := by rfl
theorem ft_106_66 : ft_m 106 66 = some (.bipush 66, 68, 0, 0, 0, 0, nI 66) := by rfl
theorem ft_106_68 : ft_m 106 68 = some (.if_icmp .ge 31, 71, 99, 0, 0, 0, 0) := by rfl
theorem ft_106_71 : ft_m 106 71 = some (.aload_n 0, 72, 0, 0, 0, 0, 0) := by rfl
theorem ft_106_72 : ft_m 106 72 = some (.getfield 63, 75, 8, 32, 763, 0, 0) := by rfl
theorem ft_106_75 : ft_m 106 75 = some (.iload 4, 77, 4, 0, 0, 0, 0) := by rfl
theorem ft_106_77 : ft_m 106 77 = some (.aload_n 0, 78, 0, 0, 0, 0, 0) := by rfl
theorem ft_106_78 : ft_m 106 78 = some (.getfield 7, 81, 8, 1, 733, 0, 0) := by rfl
theorem ft_106_81 : ft_m 106 81 = some (.iload_n 3, 82, 3, 0, 0, 0, 0) := by rfl
theorem ft_106_82 : ft_m 106 82 = some (.iaload, 83, 0, 0, 0, 0, 0) := by rfl
theorem ft_106_83 : ft_m 106 83 = some (.i2l, 84, 0, 0, 0, 0, 0) := by rfl
theorem ft_106_84 : ft_m 106 84 = some (.aload_n 0, 85, 0, 0, 0, 0, 0) := by rfl
theorem ft_106_85 : ft_m 106 85 = some (.getfield 60, 88, 8, 31, 762, 0, 0) := by rfl
theorem ft_106_88 : ft_m 106 88 = some (.iload 4, 90, 4, 0, 0, 0, 0) := by rfl
theorem ft_106_90 : ft_m 106 90 = some (.laload, 91, 0, 0, 0, 0, 0) := by rfl
theorem ft_106_91 : ft_m 106 91 = some (.lmul, 92, 0, 0, 0, 0, 0) := by rfl
theorem ft_106_92 : ft_m 106 92 = some (.lastore, 93, 0, 0, 0, 0, 0) := by rfl
theorem ft_106_93 : ft_m 106 93 = some (.iinc 4 1, 96, 4, 0, 0, 0, nI 1) := by rfl
theorem ft_106_96 : ft_m 106 96 = some (.goto (-32), 99, 64, 0, 0, 0, 0) := by rfl
theorem ft_106_99 : ft_m 106 99 = some (.aload_n 0, 100, 0, 0, 0, 0, 0) := by rfl
theorem ft_106_100 : ft_m 106 100 = some (.aload_n 0, 101, 0, 0, 0, 0, 0) := by rfl
theorem ft_106_101 : ft_m 106 101 = some (.getfield 63, 104, 8, 32, 763, 0, 0) := by rfl
theorem ft_106_104 : ft_m 106 104 = some (.iconst 4, 105, 0, 0, 0, 0, nI 4) := by rfl
theorem ft_106_105 : ft_m 106 105 = some (.iload_n 2, 106, 2, 0, 0, 0, 0) := by rfl
theorem ft_106_106 : ft_m 106 106 = some (.imul, 107, 0, 0, 0, 0, 0) := by rfl
theorem ft_106_107 : ft_m 106 107 = some (.aload_n 0, 108, 0, 0, 0, 0, 0) := by rfl
theorem ft_106_108 : ft_m 106 108 = some (.getfield 7, 111, 8, 1, 733, 0, 0) := by rfl
theorem ft_106_111 : ft_m 106 111 = some (.iload_n 3, 112, 3, 0, 0, 0, 0) := by rfl
theorem ft_106_112 : ft_m 106 112 = some (.iconst 1, 113, 0, 0, 0, 0, nI 1) := by rfl
theorem ft_106_113 : ft_m 106 113 = some (.iadd, 114, 0, 0, 0, 0, 0) := by rfl
theorem ft_106_114 : ft_m 106 114 = some (.iaload, 115, 0, 0, 0, 0, 0) := by rfl
theorem ft_106_115 : ft_m 106 115 = some (.i2l, 116, 0, 0, 0, 0, 0) := by rfl
theorem ft_106_116 : ft_m 106 116 = some (.iconst 1, 117, 0, 0, 0, 0, nI 1) := by rfl
theorem ft_106_117 : ft_m 106 117 = some (.invokevirtual 245, 120, 108, 0, 990, 0, 0) := by rfl
theorem ft_106_120 : ft_m 106 120 = some (.aload_n 0, 121, 0, 0, 0, 0, 0) := by rfl
theorem ft_106_121 : ft_m 106 121 = some (.aload_n 0, 122, 0, 0, 0, 0, 0) := by rfl
theorem ft_106_122 : ft_m 106 122 = some (.getfield 63, 125, 8, 32, 763, 0, 0) := by rfl
theorem ft_106_125 : ft_m 106 125 = some (.iconst 4, 126, 0, 0, 0, 0, nI 4) := by rfl
theorem ft_106_126 : ft_m 106 126 = some (.iload_n 2, 127, 2, 0, 0, 0, 0) := by rfl
theorem ft_106_127 : ft_m 106 127 = some (.imul, 128, 0, 0, 0, 0, 0) := by rfl
theorem ft_106_128 : ft_m 106 128 = some (.iconst 1, 129, 0, 0, 0, 0, nI 1) := by rfl
theorem ft_106_129 : ft_m 106 129 = some (.iadd, 130, 0, 0, 0, 0, 0) := by rfl
theorem ft_106_130 : ft_m 106 130 = some (.aload_n 0, 131, 0, 0, 0, 0, 0) := by rfl
theorem ft_106_131 : ft_m 106 131 = some (.getfield 7, 134, 8, 1, 733, 0, 0) := by rfl
theorem ft_106_134 : ft_m 106 134 = some (.iload_n 3, 135, 3, 0, 0, 0, 0) := by rfl
theorem ft_106_135 : ft_m 106 135 = some (.iconst 2, 136, 0, 0, 0, 0, nI 2) := by rfl
theorem ft_106_136 : ft_m 106 136 = some (.iadd, 137, 0, 0, 0, 0, 0) := by rfl
theorem ft_106_137 : ft_m 106 137 = some (.iaload, 138, 0, 0, 0, 0, 0) := by rfl
theorem ft_106_138 : ft_m 106 138 = some (.i2l, 139, 0, 0, 0, 0, 0) := by rfl
theorem ft_106_139 : ft_m 106 139 = some (.iconst 2, 140, 0, 0, 0, 0, nI 2) := by rfl
theorem ft_106_140 : ft_m 106 140 = some (.invokevirtual 245, 143, 108, 0, 990, 0, 0) := by rfl
theorem ft_106_143 : ft_m 106 143 = some (.aload_n 0, 144, 0, 0, 0, 0, 0) := by rfl
theorem ft_106_144 : ft_m 106 144 = some (.aload_n 0, 145, 0, 0, 0, 0, 0) := by rfl
theorem ft_106_145 : ft_m 106 145 = some (.getfield 63, 148, 8, 32, 763, 0, 0) := by rfl
theorem ft_106_148 : ft_m 106 148 = some (.iconst 4, 149, 0, 0, 0, 0, nI 4) := by rfl
theorem ft_106_149 : ft_m 106 149 = some (.iload_n 2, 150, 2, 0, 0, 0, 0) := by rfl
theorem ft_106_150 : ft_m 106 150 = some (.imul, 151, 0, 0, 0, 0, 0) := by rfl
theorem ft_106_151 : ft_m 106 151 = some (.iconst 2, 152, 0, 0, 0, 0, nI 2) := by rfl
theorem ft_106_152 : ft_m 106 152 = some (.iadd, 153, 0, 0, 0, 0, 0) := by rfl
theorem ft_106_153 : ft_m 106 153 = some (.aload_n 0, 154, 0, 0, 0, 0, 0) := by rfl
theorem ft_106_154 : ft_m 106 154 = some (.getfield 7, 157, 8, 1, 733, 0, 0) := by rfl
theorem ft_106_157 : ft_m 106 157 = some (.iload_n 3, 158, 3, 0, 0, 0, 0) := by rfl
theorem ft_106_158 : ft_m 106 158 = some (.iconst 3, 159, 0, 0, 0, 0, nI 3) := by rfl
theorem ft_106_159 : ft_m 106 159 = some (.iadd, 160, 0, 0, 0, 0, 0) := by rfl
theorem ft_106_160 : ft_m 106 160 = some (.iaload, 161, 0, 0, 0, 0, 0) := by rfl
theorem ft_106_161 : ft_m 106 161 = some (.ineg, 162, 0, 0, 0, 0, 0) := by rfl
theorem ft_106_162 : ft_m 106 162 = some (.i2l, 163, 0, 0, 0, 0, 0) := by rfl
theorem ft_106_163 : ft_m 106 163 = some (.iconst 0, 164, 0, 0, 0, 0, nI 0) := by rfl
theorem ft_106_164 : ft_m 106 164 = some (.invokevirtual 245, 167, 108, 0, 990, 0, 0) := by rfl
theorem ft_106_167 : ft_m 106 167 = some (.aload_n 0, 168, 0, 0, 0, 0, 0) := by rfl
theorem ft_106_168 : ft_m 106 168 = some (.aload_n 0, 169, 0, 0, 0, 0, 0) := by rfl
theorem ft_106_169 : ft_m 106 169 = some (.getfield 63, 172, 8, 32, 763, 0, 0) := by rfl
theorem ft_106_172 : ft_m 106 172 = some (.iconst 4, 173, 0, 0, 0, 0, nI 4) := by rfl
theorem ft_106_173 : ft_m 106 173 = some (.iload_n 2, 174, 2, 0, 0, 0, 0) := by rfl
theorem ft_106_174 : ft_m 106 174 = some (.imul, 175, 0, 0, 0, 0, 0) := by rfl
theorem ft_106_175 : ft_m 106 175 = some (.iconst 3, 176, 0, 0, 0, 0, nI 3) := by rfl
theorem ft_106_176 : ft_m 106 176 = some (.iadd, 177, 0, 0, 0, 0, 0) := by rfl
theorem ft_106_177 : ft_m 106 177 = some (.aload_n 0, 178, 0, 0, 0, 0, 0) := by rfl
theorem ft_106_178 : ft_m 106 178 = some (.getfield 7, 181, 8, 1, 733, 0, 0) := by rfl
theorem ft_106_181 : ft_m 106 181 = some (.iload_n 3, 182, 3, 0, 0, 0, 0) := by rfl
theorem ft_106_182 : ft_m 106 182 = some (.iconst 4, 183, 0, 0, 0, 0, nI 4) := by rfl
theorem ft_106_183 : ft_m 106 183 = some (.iadd, 184, 0, 0, 0, 0, 0) := by rfl
theorem ft_106_184 : ft_m 106 184 = some (.iaload, 185, 0, 0, 0, 0, 0) := by rfl
theorem ft_106_185 : ft_m 106 185 = some (.ineg, 186, 0, 0, 0, 0, 0) := by rfl
theorem ft_106_186 : ft_m 106 186 = some (.i2l, 187, 0, 0, 0, 0, 0) := by rfl
theorem ft_106_187 : ft_m 106 187 = some (.iconst 1, 188, 0, 0, 0, 0, nI 1) := by rfl
theorem ft_106_188 : ft_m 106 188 = some (.invokevirtual 245, 191, 108, 0, 990, 0, 0) := by rfl
theorem ft_106_191 : ft_m 106 191 = some (.aload_n 0, 192, 0, 0, 0, 0, 0) := by rfl
theorem ft_106_192 : ft_m 106 192 = some (.aload_n 0, 193, 0, 0, 0, 0, 0) := by rfl
theorem ft_106_193 : ft_m 106 193 = some (.getfield 63, 196, 8, 32, 763, 0, 0) := by rfl
theorem ft_106_196 : ft_m 106 196 = some (.invokevirtual 241, 199, 107, 0, 986, 0, 0) := by rfl
theorem ft_106_199 : ft_m 106 199 = some (.iconst 0, 200, 0, 0, 0, 0, nI 0) := by rfl
theorem ft_106_200 : ft_m 106 200 = some (.istore 4, 202, 4, 0, 0, 0, 0) := by rfl
theorem ft_106_202 : ft_m 106 202 = some (.iload 4, 204, 4, 0, 0, 0, 0) := by rfl
theorem ft_106_204 : ft_m 106 204 = some (.bipush 66, 206, 0, 0, 0, 0, nI 66) := by rfl
theorem ft_106_206 : ft_m 106 206 = some (.if_icmp .ge 105, 209, 311, 0, 0, 0, 0) := by rfl
theorem ft_106_209 : ft_m 106 209 = some (.iconst 4, 210, 0, 0, 0, 0, nI 4) := by rfl
theorem ft_106_210 : ft_m 106 210 = some (.iload_n 2, 211, 2, 0, 0, 0, 0) := by rfl
theorem ft_106_211 : ft_m 106 211 = some (.imul, 212, 0, 0, 0, 0, 0) := by rfl
theorem ft_106_212 : ft_m 106 212 = some (.bipush 66, 214, 0, 0, 0, 0, nI 66) := by rfl
theorem ft_106_214 : ft_m 106 214 = some (.imul, 215, 0, 0, 0, 0, 0) := by rfl
theorem ft_106_215 : ft_m 106 215 = some (.iload 4, 217, 4, 0, 0, 0, 0) := by rfl
theorem ft_106_217 : ft_m 106 217 = some (.iadd, 218, 0, 0, 0, 0, 0) := by rfl
theorem ft_106_218 : ft_m 106 218 = some (.istore 5, 220, 5, 0, 0, 0, 0) := by rfl
theorem ft_106_220 : ft_m 106 220 = some (.aload_n 0, 221, 0, 0, 0, 0, 0) := by rfl
theorem ft_106_221 : ft_m 106 221 = some (.getfield 57, 224, 8, 30, 761, 0, 0) := by rfl
theorem ft_106_224 : ft_m 106 224 = some (.iload 5, 226, 5, 0, 0, 0, 0) := by rfl
theorem ft_106_226 : ft_m 106 226 = some (.bipush 66, 228, 0, 0, 0, 0, nI 66) := by rfl
theorem ft_106_228 : ft_m 106 228 = some (.iadd, 229, 0, 0, 0, 0, 0) := by rfl
theorem ft_106_229 : ft_m 106 229 = some (.aload_n 0, 230, 0, 0, 0, 0, 0) := by rfl
theorem ft_106_230 : ft_m 106 230 = some (.getfield 57, 233, 8, 30, 761, 0, 0) := by rfl
theorem ft_106_233 : ft_m 106 233 = some (.iload 5, 235, 5, 0, 0, 0, 0) := by rfl
theorem ft_106_235 : ft_m 106 235 = some (.laload, 236, 0, 0, 0, 0, 0) := by rfl
theorem ft_106_236 : ft_m 106 236 = some (.lastore, 237, 0, 0, 0, 0, 0) := by rfl
theorem ft_106_237 : ft_m 106 237 = some (.aload_n 0, 238, 0, 0, 0, 0, 0) := by rfl
theorem ft_106_238 : ft_m 106 238 = some (.getfield 57, 241, 8, 30, 761, 0, 0) := by rfl
theorem ft_106_241 : ft_m 106 241 = some (.iload 5, 243, 5, 0, 0, 0, 0) := by rfl
theorem ft_106_243 : ft_m 106 243 = some (.aload_n 0, 244, 0, 0, 0, 0, 0) := by rfl
theorem ft_106_244 : ft_m 106 244 = some (.getfield 60, 247, 8, 31, 762, 0, 0) := by rfl
theorem ft_106_247 : ft_m 106 247 = some (.iload 4, 249, 4, 0, 0, 0, 0) := by rfl
theorem ft_106_249 : ft_m 106 249 = some (.laload, 250, 0, 0, 0, 0, 0) := by rfl
theorem ft_106_250 : ft_m 106 250 = some (.lastore, 251, 0, 0, 0, 0, 0) := by rfl
theorem ft_106_251 : ft_m 106 251 = some (.aload_n 0, 252, 0, 0, 0, 0, 0) := by rfl
theorem ft_106_252 : ft_m 106 252 = some (.getfield 57, 255, 8, 30, 761, 0, 0) := by rfl
theorem ft_106_255 : ft_m 106 255 = some (.iload 5, 257, 5, 0, 0, 0, 0) := by rfl
theorem ft_106_257 : ft_m 106 257 = some (.sipush 198, 260, 0, 0, 0, 0, nI 198) := by rfl
theorem ft_106_260 : ft_m 106 260 = some (.iadd, 261, 0, 0, 0, 0, 0) := by rfl
theorem ft_106_261 : ft_m 106 261 = some (.aload_n 0, 262, 0, 0, 0, 0, 0) := by rfl
theorem ft_106_262 : ft_m 106 262 = some (.getfield 57, 265, 8, 30, 761, 0, 0) := by rfl
theorem ft_106_265 : ft_m 106 265 = some (.iload 5, 267, 5, 0, 0, 0, 0) := by rfl
theorem ft_106_267 : ft_m 106 267 = some (.sipush 132, 270, 0, 0, 0, 0, nI 132) := by rfl
theorem ft_106_270 : ft_m 106 270 = some (.iadd, 271, 0, 0, 0, 0, 0) := by rfl
theorem ft_106_271 : ft_m 106 271 = some (.laload, 272, 0, 0, 0, 0, 0) := by rfl
theorem ft_106_272 : ft_m 106 272 = some (.lastore, 273, 0, 0, 0, 0, 0) := by rfl
theorem ft_106_273 : ft_m 106 273 = some (.aload_n 0, 274, 0, 0, 0, 0, 0) := by rfl
theorem ft_106_274 : ft_m 106 274 = some (.getfield 57, 277, 8, 30, 761, 0, 0) := by rfl
theorem ft_106_277 : ft_m 106 277 = some (.iload 5, 279, 5, 0, 0, 0, 0) := by rfl
theorem ft_106_279 : ft_m 106 279 = some (.sipush 132, 282, 0, 0, 0, 0, nI 132) := by rfl
theorem ft_106_282 : ft_m 106 282 = some (.iadd, 283, 0, 0, 0, 0, 0) := by rfl
theorem ft_106_283 : ft_m 106 283 = some (.aload_n 0, 284, 0, 0, 0, 0, 0) := by rfl
theorem ft_106_284 : ft_m 106 284 = some (.getfield 63, 287, 8, 32, 763, 0, 0) := by rfl
theorem ft_106_287 : ft_m 106 287 = some (.iload 4, 289, 4, 0, 0, 0, 0) := by rfl
theorem ft_106_289 : ft_m 106 289 = some (.laload, 290, 0, 0, 0, 0, 0) := by rfl
theorem ft_106_290 : ft_m 106 290 = some (.lastore, 291, 0, 0, 0, 0, 0) := by rfl
theorem ft_106_291 : ft_m 106 291 = some (.aload_n 0, 292, 0, 0, 0, 0, 0) := by rfl
theorem ft_106_292 : ft_m 106 292 = some (.getfield 60, 295, 8, 31, 762, 0, 0) := by rfl
theorem ft_106_295 : ft_m 106 295 = some (.iload 4, 297, 4, 0, 0, 0, 0) := by rfl
theorem ft_106_297 : ft_m 106 297 = some (.aload_n 0, 298, 0, 0, 0, 0, 0) := by rfl
theorem ft_106_298 : ft_m 106 298 = some (.getfield 63, 301, 8, 32, 763, 0, 0) := by rfl
theorem ft_106_301 : ft_m 106 301 = some (.iload 4, 303, 4, 0, 0, 0, 0) := by rfl
theorem ft_106_303 : ft_m 106 303 = some (.laload, 304, 0, 0, 0, 0, 0) := by rfl
theorem ft_106_304 : ft_m 106 304 = some (.lastore, 305, 0, 0, 0, 0, 0) := by rfl
theorem ft_106_305 : ft_m 106 305 = some (.iinc 4 1, 308, 4, 0, 0, 0, nI 1) := by rfl
theorem ft_106_308 : ft_m 106 308 = some (.goto (-106), 311, 202, 0, 0, 0, 0) := by rfl
theorem ft_106_311 : ft_m 106 311 = some (.iinc 2 1, 314, 2, 0, 0, 0, nI 1) := by rfl
theorem ft_106_314 : ft_m 106 314 = some (.goto (-270), 317, 44, 0, 0, 0, 0) := by rfl
theorem ft_106_317 : ft_m 106 317 = some (.return_, 318, 0, 0, 0, 0, 0) := by rfl
theorem ft_107_0 : ft_m 107 0 = some (.iconst 0, 1, 0, 0, 0, 0, nI 0) := by rfl
theorem ft_107_1 : ft_m 107 1 = some (.istore_n 2, 2, 2, 0, 0, 0, 0) := by rfl
theorem ft_107_2 : ft_m 107 2 = some (.iload_n 2, 3, 2, 0, 0, 0, 0) := by rfl
theorem ft_107_3 : ft_m 107 3 = some (.iconst 1, 4, 0, 0, 0, 0, nI 1) := by rfl
theorem ft_107_4 : ft_m 107 4 = some (.iadd, 5, 0, 0, 0, 0, 0) := by rfl
theorem ft_107_5 : ft_m 107 5 = some (.bipush 66, 7, 0, 0, 0, 0, nI 66) := by rfl
theorem ft_107_7 : ft_m 107 7 = some (.if_icmp .ge 35, 10, 42, 0, 0, 0, 0) := by rfl
theorem ft_107_10 : ft_m 107 10 = some (.aload_n 1, 11, 1, 0, 0, 0, 0) := by rfl
theorem ft_107_11 : ft_m 107 11 = some (.iload_n 2, 12, 2, 0, 0, 0, 0) := by rfl
theorem ft_107_12 : ft_m 107 12 = some (.laload, 13, 0, 0, 0, 0, 0) := by rfl
theorem ft_107_13 : ft_m 107 13 = some (.bipush 14, 15, 0, 0, 0, 0, nI 14) := by rfl
theorem ft_107_15 : ft_m 107 15 = some (.lshr, 16, 0, 0, 0, 0, 0) := by rfl
theorem ft_107_16 : ft_m 107 16 = some (.lstore_n 3, 17, 3, 0, 0, 0, 0) := by rfl
theorem ft_107_17 : ft_m 107 17 = some (.aload_n 1, 18, 1, 0, 0, 0, 0) := by rfl
theorem ft_107_18 : ft_m 107 18 = some (.iload_n 2, 19, 2, 0, 0, 0, 0) := by rfl
theorem ft_107_19 : ft_m 107 19 = some (.iconst 1, 20, 0, 0, 0, 0, nI 1) := by rfl
theorem ft_107_20 : ft_m 107 20 = some (.iadd, 21, 0, 0, 0, 0, 0) := by rfl
theorem ft_107_21 : ft_m 107 21 = some (.dup2, 22, 0, 0, 0, 0, 0) := by rfl
theorem ft_107_22 : ft_m 107 22 = some (.laload, 23, 0, 0, 0, 0, 0) := by rfl
theorem ft_107_23 : ft_m 107 23 = some (.lload_n 3, 24, 3, 0, 0, 0, 0) := by rfl
theorem ft_107_24 : ft_m 107 24 = some (.ladd, 25, 0, 0, 0, 0, 0) := by rfl
theorem ft_107_25 : ft_m 107 25 = some (.lastore, 26, 0, 0, 0, 0, 0) := by rfl
theorem ft_107_26 : ft_m 107 26 = some (.aload_n 1, 27, 1, 0, 0, 0, 0) := by rfl
theorem ft_107_27 : ft_m 107 27 = some (.iload_n 2, 28, 2, 0, 0, 0, 0) := by rfl
theorem ft_107_28 : ft_m 107 28 = some (.dup2, 29, 0, 0, 0, 0, 0) := by rfl
theorem ft_107_29 : ft_m 107 29 = some (.laload, 30, 0, 0, 0, 0, 0) := by rfl
theorem ft_107_30 : ft_m 107 30 = some (.lload_n 3, 31, 3, 0, 0, 0, 0) := by rfl
theorem ft_107_31 : ft_m 107 31 = some (.bipush 14, 33, 0, 0, 0, 0, nI 14) := by rfl
theorem ft_107_33 : ft_m 107 33 = some (.lshl, 34, 0, 0, 0, 0, 0) := by rfl
theorem ft_107_34 : ft_m 107 34 = some (.lsub, 35, 0, 0, 0, 0, 0) := by rfl
theorem ft_107_35 : ft_m 107 35 = some (.lastore, 36, 0, 0, 0, 0, 0) := by rfl
theorem ft_107_36 : ft_m 107 36 = some (.iinc 2 1, 39, 2, 0, 0, 0, nI 1) := by rfl
theorem ft_107_39 : ft_m 107 39 = some (.goto (-37), 42, 2, 0, 0, 0, 0) := by rfl
theorem ft_107_42 : ft_m 107 42 = some (.return_, 43, 0, 0, 0, 0, 0) := by rfl
theorem ft_108_0 : ft_m 108 0 = some (.bipush 65, 2, 0, 0, 0, 0, nI 65) := by rfl
theorem ft_108_2 : ft_m 108 2 = some (.istore 6, 4, 6, 0, 0, 0, 0) := by rfl
theorem ft_108_4 : ft_m 108 4 = some (.iload 6, 6, 6, 0, 0, 0, 0) := by rfl
theorem ft_108_6 : ft_m 108 6 = some (.iload 5, 8, 5, 0, 0, 0, 0) := by rfl
theorem ft_108_8 : ft_m 108 8 = some (.if_icmp .lt 33, 11, 41, 0, 0, 0, 0) := by rfl
theorem ft_108_11 : ft_m 108 11 = some (.aload_n 1, 12, 1, 0, 0, 0, 0) := by rfl
theorem ft_108_12 : ft_m 108 12 = some (.iload 6, 14, 6, 0, 0, 0, 0) := by rfl
theorem ft_108_14 : ft_m 108 14 = some (.dup2, 15, 0, 0, 0, 0, 0) := by rfl
theorem ft_108_15 : ft_m 108 15 = some (.laload, 16, 0, 0, 0, 0, 0) := by rfl
theorem ft_108_16 : ft_m 108 16 = some (.lload_n 3, 17, 3, 0, 0, 0, 0) := by rfl
theorem ft_108_17 : ft_m 108 17 = some (.aload_n 0, 18, 0, 0, 0, 0, 0) := by rfl
theorem ft_108_18 : ft_m 108 18 = some (.getfield 57, 21, 8, 30, 761, 0, 0) := by rfl
theorem ft_108_21 : ft_m 108 21 = some (.bipush 66, 23, 0, 0, 0, 0, nI 66) := by rfl
theorem ft_108_23 : ft_m 108 23 = some (.iload_n 2, 24, 2, 0, 0, 0, 0) := by rfl
theorem ft_108_24 : ft_m 108 24 = some (.imul, 25, 0, 0, 0, 0, 0) := by rfl
theorem ft_108_25 : ft_m 108 25 = some (.iload 6, 27, 6, 0, 0, 0, 0) := by rfl
theorem ft_108_27 : ft_m 108 27 = some (.iadd, 28, 0, 0, 0, 0, 0) := by rfl
theorem ft_108_28 : ft_m 108 28 = some (.iload 5, 30, 5, 0, 0, 0, 0) := by rfl
theorem ft_108_30 : ft_m 108 30 = some (.isub, 31, 0, 0, 0, 0, 0) := by rfl
theorem ft_108_31 : ft_m 108 31 = some (.laload, 32, 0, 0, 0, 0, 0) := by rfl
theorem ft_108_32 : ft_m 108 32 = some (.lmul, 33, 0, 0, 0, 0, 0) := by rfl
theorem ft_108_33 : ft_m 108 33 = some (.ladd, 34, 0, 0, 0, 0, 0) := by rfl
theorem ft_108_34 : ft_m 108 34 = some (.lastore, 35, 0, 0, 0, 0, 0) := by rfl
theorem ft_108_35 : ft_m 108 35 = some (.iinc 6 (-1), 38, 6, 0, 0, 0, (-1)) := by rfl
theorem ft_108_38 : ft_m 108 38 = some (.goto (-34), 41, 4, 0, 0, 0, 0) := by rfl
theorem ft_108_41 : ft_m 108 41 = some (.iconst 1, 42, 0, 0, 0, 0, nI 1) := by rfl
theorem ft_108_42 : ft_m 108 42 = some (.istore 6, 44, 6, 0, 0, 0, 0) := by rfl
theorem ft_108_44 : ft_m 108 44 = some (.iload 6, 46, 6, 0, 0, 0, 0) := by rfl
theorem ft_108_46 : ft_m 108 46 = some (.iload 5, 48, 5, 0, 0, 0, 0) := by rfl
theorem ft_108_48 : ft_m 108 48 = some (.if_icmp .gt 44, 51, 92, 0, 0, 0, 0) := by rfl
theorem ft_108_51 : ft_m 108 51 = some (.aload_n 1, 52, 1, 0, 0, 0, 0) := by rfl
theorem ft_108_52 : ft_m 108 52 = some (.bipush 65, 54, 0, 0, 0, 0, nI 65) := by rfl
theorem ft_108_54 : ft_m 108 54 = some (.dup2, 55, 0, 0, 0, 0, 0) := by rfl
theorem ft_108_55 : ft_m 108 55 = some (.laload, 56, 0, 0, 0, 0, 0) := by rfl
theorem ft_108_56 : ft_m 108 56 = some (.lload_n 3, 57, 3, 0, 0, 0, 0) := by rfl
theorem ft_108_57 : ft_m 108 57 = some (.aload_n 0, 58, 0, 0, 0, 0, 0) := by rfl
theorem ft_108_58 : ft_m 108 58 = some (.getfield 57, 61, 8, 30, 761, 0, 0) := by rfl
theorem ft_108_61 : ft_m 108 61 = some (.bipush 66, 63, 0, 0, 0, 0, nI 66) := by rfl
theorem ft_108_63 : ft_m 108 63 = some (.iload_n 2, 64, 2, 0, 0, 0, 0) := by rfl
theorem ft_108_64 : ft_m 108 64 = some (.imul, 65, 0, 0, 0, 0, 0) := by rfl
theorem ft_108_65 : ft_m 108 65 = some (.bipush 66, 67, 0, 0, 0, 0, nI 66) := by rfl
theorem ft_108_67 : ft_m 108 67 = some (.iadd, 68, 0, 0, 0, 0, 0) := by rfl
theorem ft_108_68 : ft_m 108 68 = some (.iconst 1, 69, 0, 0, 0, 0, nI 1) := by rfl
theorem ft_108_69 : ft_m 108 69 = some (.isub, 70, 0, 0, 0, 0, 0) := by rfl
theorem ft_108_70 : ft_m 108 70 = some (.iload 5, 72, 5, 0, 0, 0, 0) := by rfl
theorem ft_108_72 : ft_m 108 72 = some (.isub, 73, 0, 0, 0, 0, 0) := by rfl
theorem ft_108_73 : ft_m 108 73 = some (.iload 6, 75, 6, 0, 0, 0, 0) := by rfl
theorem ft_108_75 : ft_m 108 75 = some (.iadd, 76, 0, 0, 0, 0, 0) := by rfl
theorem ft_108_76 : ft_m 108 76 = some (.laload, 77, 0, 0, 0, 0, 0) := by rfl
theorem ft_108_77 : ft_m 108 77 = some (.bipush 14, 79, 0, 0, 0, 0, nI 14) := by rfl
theorem ft_108_79 : ft_m 108 79 = some (.iload 6, 81, 6, 0, 0, 0, 0) := by rfl
theorem ft_108_81 : ft_m 108 81 = some (.imul, 82, 0, 0, 0, 0, 0) := by rfl
theorem ft_108_82 : ft_m 108 82 = some (.lshl, 83, 0, 0, 0, 0, 0) := by rfl
theorem ft_108_83 : ft_m 108 83 = some (.lmul, 84, 0, 0, 0, 0, 0) := by rfl
theorem ft_108_84 : ft_m 108 84 = some (.ladd, 85, 0, 0, 0, 0, 0) := by rfl
theorem ft_108_85 : ft_m 108 85 = some (.lastore, 86, 0, 0, 0, 0, 0) := by rfl
theorem ft_108_86 : ft_m 108 86 = some (.iinc 6 1, 89, 6, 0, 0, 0, nI 1) := by rfl
theorem ft_108_89 : ft_m 108 89 = some (.goto (-45), 92, 44, 0, 0, 0, 0) := by rfl
theorem ft_108_92 : ft_m 108 92 = some (.return_, 93, 0, 0, 0, 0, 0) := by rfl
theorem ft_109_0 : ft_m 109 0 = some (.aload_n 0, 1, 0, 0, 0, 0, 0) := by rfl
theorem ft_109_1 : ft_m 109 1 = some (.iload_n 1, 2, 1, 0, 0, 0, 0) := by rfl
theorem ft_109_2 : ft_m 109 2 = some (.iload_n 2, 3, 2, 0, 0, 0, 0) := by rfl
theorem ft_109_3 : ft_m 109 3 = some (.iconst 4, 4, 0, 0, 0, 0, nI 4) := by rfl
theorem ft_109_4 : ft_m 109 4 = some (.invokevirtual 217, 7, 100, 0, 953, 0, 0) := by rfl
theorem ft_109_7 : ft_m 109 7 = some (.ifCond .eq 16, 10, 23, 0, 0, 0, 0) := by rfl
theorem ft_109_10 : ft_m 109 10 = some (.aload_n 0, 11, 0, 0, 0, 0, 0) := by rfl
theorem ft_109_11 : ft_m 109 11 = some (.getfield 27, 14, 8, 11, 743, 0, 0) := by rfl
theorem ft_109_14 : ft_m 109 14 = some (.iconst 5, 15, 0, 0, 0, 0, nI 5) := by rfl
theorem ft_109_15 : ft_m 109 15 = some (.iload_n 1, 16, 1, 0, 0, 0, 0) := by rfl
theorem ft_109_16 : ft_m 109 16 = some (.imul, 17, 0, 0, 0, 0, 0) := by rfl
theorem ft_109_17 : ft_m 109 17 = some (.iload_n 2, 18, 2, 0, 0, 0, 0) := by rfl
theorem ft_109_18 : ft_m 109 18 = some (.iadd, 19, 0, 0, 0, 0, 0) := by rfl
theorem ft_109_19 : ft_m 109 19 = some (.laload, 20, 0, 0, 0, 0, 0) := by rfl
theorem ft_109_20 : ft_m 109 20 = some (.goto 4, 23, 24, 0, 0, 0, 0) := by rfl
theorem ft_109_23 : ft_m 109 23 = some (.lconst 0, 24, 0, 0, 0, 0, 0) := by rfl
theorem ft_109_24 : ft_m 109 24 = some (.lreturn, 25, 0, 0, 0, 0, 0) := by rfl
theorem ft_110_0 : ft_m 110 0 = some (.aload_n 0, 1, 0, 0, 0, 0, 0) := by rfl
theorem ft_110_1 : ft_m 110 1 = some (.invokevirtual 251, 4, 111, 0, 1002, 0, 0) := by rfl
theorem ft_110_4 : ft_m 110 4 = some (.ifCond .ne 7, 7, 11, 0, 0, 0, 0) := by rfl
theorem ft_110_7 : ft_m 110 7 = some (.ldc2_w 142, 10, 0, 0, 904, (-1), 0) := by rfl
theorem ft_110_10 : ft_m 110 10 = some (.lreturn, 11, 0, 0, 0, 0, 0) := by rfl
theorem ft_110_11 : ft_m 110 11 = some (.aload_n 0, 12, 0, 0, 0, 0, 0) := by rfl
theorem ft_110_12 : ft_m 110 12 = some (.getfield 214, 15, 8, 8, 740, 0, 0) := by rfl
theorem ft_110_15 : ft_m 110 15 = some (.aload_n 0, 16, 0, 0, 0, 0, 0) := by rfl
theorem ft_110_16 : ft_m 110 16 = some (.getfield 66, 19, 8, 0, 732, 0, 0) := by rfl
theorem ft_110_19 : ft_m 110 19 = some (.iadd, 20, 0, 0, 0, 0, 0) := by rfl
theorem ft_110_20 : ft_m 110 20 = some (.iconst 1, 21, 0, 0, 0, 0, nI 1) := by rfl
theorem ft_110_21 : ft_m 110 21 = some (.isub, 22, 0, 0, 0, 0, 0) := by rfl
theorem ft_110_22 : ft_m 110 22 = some (.istore_n 1, 23, 1, 0, 0, 0, 0) := by rfl
theorem ft_110_23 : ft_m 110 23 = some (.iconst 0, 24, 0, 0, 0, 0, nI 0) := by rfl
theorem ft_110_24 : ft_m 110 24 = some (.istore_n 2, 25, 2, 0, 0, 0, 0) := by rfl
theorem ft_110_25 : ft_m 110 25 = some (.iload_n 2, 26, 2, 0, 0, 0, 0) := by rfl
theorem ft_110_26 : ft_m 110 26 = some (.bipush 66, 28, 0, 0, 0, 0, nI 66) := by rfl
theorem ft_110_28 : ft_m 110 28 = some (.if_icmp .ge 27, 31, 55, 0, 0, 0, 0) := by rfl
theorem ft_110_31 : ft_m 110 31 = some (.aload_n 0, 32, 0, 0, 0, 0, 0) := by rfl
theorem ft_110_32 : ft_m 110 32 = some (.getfield 63, 35, 8, 32, 763, 0, 0) := by rfl
theorem ft_110_35 : ft_m 110 35 = some (.iload_n 2, 36, 2, 0, 0, 0, 0) := by rfl
theorem ft_110_36 : ft_m 110 36 = some (.aload_n 0, 37, 0, 0, 0, 0, 0) := by rfl
theorem ft_110_37 : ft_m 110 37 = some (.getfield 60, 40, 8, 31, 762, 0, 0) := by rfl
theorem ft_110_40 : ft_m 110 40 = some (.iload_n 2, 41, 2, 0, 0, 0, 0) := by rfl
theorem ft_110_41 : ft_m 110 41 = some (.laload, 42, 0, 0, 0, 0, 0) := by rfl
theorem ft_110_42 : ft_m 110 42 = some (.aload_n 0, 43, 0, 0, 0, 0, 0) := by rfl
theorem ft_110_43 : ft_m 110 43 = some (.getfield 192, 46, 8, 26, 757, 0, 0) := by rfl
theorem ft_110_46 : ft_m 110 46 = some (.lshl, 47, 0, 0, 0, 0, 0) := by rfl
theorem ft_110_47 : ft_m 110 47 = some (.lneg, 48, 0, 0, 0, 0, 0) := by rfl
theorem ft_110_48 : ft_m 110 48 = some (.lastore, 49, 0, 0, 0, 0, 0) := by rfl
theorem ft_110_49 : ft_m 110 49 = some (.iinc 2 1, 52, 2, 0, 0, 0, nI 1) := by rfl
theorem ft_110_52 : ft_m 110 52 = some (.goto (-27), 55, 25, 0, 0, 0, 0) := by rfl
theorem ft_110_55 : ft_m 110 55 = some (.aload_n 0, 56, 0, 0, 0, 0, 0) := by rfl
theorem ft_110_56 : ft_m 110 56 = some (.getfield 235, 59, 8, 29, 760, 0, 0) := by rfl
theorem ft_110_59 : ft_m 110 59 = some (.lstore_n 2, 60, 2, 0, 0, 0, 0) := by rfl
theorem ft_110_60 : ft_m 110 60 = some (.iload_n 1, 61, 1, 0, 0, 0, 0) := by rfl
theorem ft_110_61 : ft_m 110 61 = some (.istore 4, 63, 4, 0, 0, 0, 0) := by rfl
theorem ft_110_63 : ft_m 110 63 = some (.iload 4, 65, 4, 0, 0, 0, 0) := by rfl
theorem ft_110_65 : ft_m 110 65 = some (.bipush 66, 67, 0, 0, 0, 0, nI 66) := by rfl
theorem ft_110_67 : ft_m 110 67 = some (.if_icmp .ge 65, 70, 132, 0, 0, 0, 0) := by rfl
theorem ft_110_70 : ft_m 110 70 = some (.aload_n 0, 71, 0, 0, 0, 0, 0) := by rfl
theorem ft_110_71 : ft_m 110 71 = some (.getfield 63, 74, 8, 32, 763, 0, 0) := by rfl
theorem ft_110_74 : ft_m 110 74 = some (.iload 4, 76, 4, 0, 0, 0, 0) := by rfl
theorem ft_110_76 : ft_m 110 76 = some (.dup2, 77, 0, 0, 0, 0, 0) := by rfl
theorem ft_110_77 : ft_m 110 77 = some (.laload, 78, 0, 0, 0, 0, 0) := by rfl
theorem ft_110_78 : ft_m 110 78 = some (.iload 4, 80, 4, 0, 0, 0, 0) := by rfl
theorem ft_110_80 : ft_m 110 80 = some (.iload_n 1, 81, 1, 0, 0, 0, 0) := by rfl
theorem ft_110_81 : ft_m 110 81 = some (.iconst 5, 82, 0, 0, 0, 0, nI 5) := by rfl
theorem ft_110_82 : ft_m 110 82 = some (.iadd, 83, 0, 0, 0, 0, 0) := by rfl
theorem ft_110_83 : ft_m 110 83 = some (.if_icmp .ge 23, 86, 106, 0, 0, 0, 0) := by rfl
theorem ft_110_86 : ft_m 110 86 = some (.iload 4, 88, 4, 0, 0, 0, 0) := by rfl
theorem ft_110_88 : ft_m 110 88 = some (.iload_n 1, 89, 1, 0, 0, 0, 0) := by rfl
theorem ft_110_89 : ft_m 110 89 = some (.iconst 4, 90, 0, 0, 0, 0, nI 4) := by rfl
theorem ft_110_90 : ft_m 110 90 = some (.iadd, 91, 0, 0, 0, 0, 0) := by rfl
theorem ft_110_91 : ft_m 110 91 = some (.if_icmp .ne 7, 94, 98, 0, 0, 0, 0) := by rfl
theorem ft_110_94 : ft_m 110 94 = some (.lload_n 2, 95, 2, 0, 0, 0, 0) := by rfl
theorem ft_110_95 : ft_m 110 95 = some (.goto 12, 98, 107, 0, 0, 0, 0) := by rfl
theorem ft_110_98 : ft_m 110 98 = some (.lload_n 2, 99, 2, 0, 0, 0, 0) := by rfl
theorem ft_110_99 : ft_m 110 99 = some (.ldc2_w 254, 102, 0, 0, 1007, 16383, 0) := by rfl
theorem ft_110_102 : ft_m 110 102 = some (.land, 103, 0, 0, 0, 0, 0) := by rfl
theorem ft_110_103 : ft_m 110 103 = some (.goto 4, 106, 107, 0, 0, 0, 0) := by rfl
theorem ft_110_106 : ft_m 110 106 = some (.lconst 0, 107, 0, 0, 0, 0, 0) := by rfl
theorem ft_110_107 : ft_m 110 107 = some (.ladd, 108, 0, 0, 0, 0, 0) := by rfl
theorem ft_110_108 : ft_m 110 108 = some (.lastore, 109, 0, 0, 0, 0, 0) := by rfl
theorem ft_110_109 : ft_m 110 109 = some (.iload 4, 111, 4, 0, 0, 0, 0) := by rfl
theorem ft_110_111 : ft_m 110 111 = some (.iload_n 1, 112, 1, 0, 0, 0, 0) := by rfl
theorem ft_110_112 : ft_m 110 112 = some (.iconst 4, 113, 0, 0, 0, 0, nI 4) := by rfl
theorem ft_110_113 : ft_m 110 113 = some (.iadd, 114, 0, 0, 0, 0, 0) := by rfl
theorem ft_110_114 : ft_m 110 114 = some (.if_icmp .ge 10, 117, 124, 0, 0, 0, 0) := by rfl
theorem ft_110_117 : ft_m 110 117 = some (.lload_n 2, 118, 2, 0, 0, 0, 0) := by rfl
theorem ft_110_118 : ft_m 110 118 = some (.bipush 14, 120, 0, 0, 0, 0, nI 14) := by rfl
theorem ft_110_120 : ft_m 110 120 = some (.lshr, 121, 0, 0, 0, 0, 0) := by rfl
theorem ft_110_121 : ft_m 110 121 = some (.goto 4, 124, 125, 0, 0, 0, 0) := by rfl
theorem ft_110_124 : ft_m 110 124 = some (.lconst 0, 125, 0, 0, 0, 0, 0) := by rfl
theorem ft_110_125 : ft_m 110 125 = some (.lstore_n 2, 126, 2, 0, 0, 0, 0) := by rfl
theorem ft_110_126 : ft_m 110 126 = some (.iinc 4 1, 129, 4, 0, 0, 0, nI 1) := by rfl
theorem ft_110_129 : ft_m 110 129 = some (.goto (-66), 132, 63, 0, 0, 0, 0) := by rfl
theorem ft_110_132 : ft_m 110 132 = some (.aload_n 0, 133, 0, 0, 0, 0, 0) := by rfl
theorem ft_110_133 : ft_m 110 133 = some (.aload_n 0, 134, 0, 0, 0, 0, 0) := by rfl
theorem ft_110_134 : ft_m 110 134 = some (.getfield 63, 137, 8, 32, 763, 0, 0) := by rfl
theorem ft_110_137 : ft_m 110 137 = some (.invokevirtual 241, 140, 107, 0, 986, 0, 0) := by rfl
theorem ft_110_140 : ft_m 110 140 = some (.aload_n 0, 141, 0, 0, 0, 0, 0) := by rfl
theorem ft_110_141 : ft_m 110 141 = some (.aload_n 0, 142, 0, 0, 0, 0, 0) := by rfl
theorem ft_110_142 : ft_m 110 142 = some (.getfield 63, 145, 8, 32, 763, 0, 0) := by rfl
theorem ft_110_145 : ft_m 110 145 = some (.invokevirtual 256, 148, 112, 0, 1008, 0, 0) := by rfl
theorem ft_110_148 : ft_m 110 148 = some (.pop, 149, 0, 0, 0, 0, 0) := by rfl
theorem ft_110_149 : ft_m 110 149 = some (.lconst 0, 150, 0, 0, 0, 0, 0) := by rfl
theorem ft_110_150 : ft_m 110 150 = some (.lstore 4, 152, 4, 0, 0, 0, 0) := by rfl
theorem ft_110_152 : ft_m 110 152 = some (.iload_n 1, 153, 1, 0, 0, 0, 0) := by rfl
theorem ft_110_153 : ft_m 110 153 = some (.iconst 4, 154, 0, 0, 0, 0, nI 4) := by rfl
theorem ft_110_154 : ft_m 110 154 = some (.iadd, 155, 0, 0, 0, 0, 0) := by rfl
theorem ft_110_155 : ft_m 110 155 = some (.istore 6, 157, 6, 0, 0, 0, 0) := by rfl
theorem ft_110_157 : ft_m 110 157 = some (.iload 6, 159, 6, 0, 0, 0, 0) := by rfl
theorem ft_110_159 : ft_m 110 159 = some (.iload_n 1, 160, 1, 0, 0, 0, 0) := by rfl
theorem ft_110_160 : ft_m 110 160 = some (.if_icmp .lt 24, 163, 184, 0, 0, 0, 0) := by rfl
theorem ft_110_163 : ft_m 110 163 = some (.lload 4, 165, 4, 0, 0, 0, 0) := by rfl
theorem ft_110_165 : ft_m 110 165 = some (.bipush 14, 167, 0, 0, 0, 0, nI 14) := by rfl
theorem ft_110_167 : ft_m 110 167 = some (.lshl, 168, 0, 0, 0, 0, 0) := by rfl
theorem ft_110_168 : ft_m 110 168 = some (.aload_n 0, 169, 0, 0, 0, 0, 0) := by rfl
theorem ft_110_169 : ft_m 110 169 = some (.getfield 63, 172, 8, 32, 763, 0, 0) := by rfl
theorem ft_110_172 : ft_m 110 172 = some (.iload 6, 174, 6, 0, 0, 0, 0) := by rfl
theorem ft_110_174 : ft_m 110 174 = some (.laload, 175, 0, 0, 0, 0, 0) := by rfl
theorem ft_110_175 : ft_m 110 175 = some (.lor, 176, 0, 0, 0, 0, 0) := by rfl
theorem ft_110_176 : ft_m 110 176 = some (.lstore 4, 178, 4, 0, 0, 0, 0) := by rfl
theorem ft_110_178 : ft_m 110 178 = some (.iinc 6 (-1), 181, 6, 0, 0, 0, (-1)) := by rfl
theorem ft_110_181 : ft_m 110 181 = some (.goto (-24), 184, 157, 0, 0, 0, 0) := by rfl
theorem ft_110_184 : ft_m 110 184 = some (.lload 4, 186, 4, 0, 0, 0, 0) := by rfl
theorem ft_110_186 : ft_m 110 186 = some (.lreturn, 187, 0, 0, 0, 0, 0) := by rfl
theorem ft_111_0 : ft_m 111 0 = some (.aload_n 0, 1, 0, 0, 0, 0, 0) := by rfl
theorem ft_111_1 : ft_m 111 1 = some (.getfield 78, 4, 8, 4, 736, 0, 0) := by rfl
theorem ft_111_4 : ft_m 111 4 = some (.ifCond .eq 22, 7, 26, 0, 0, 0, 0) := by rfl
theorem ft_111_7 : ft_m 111 7 = some (.aload_n 0, 8, 0, 0, 0, 0, 0) := by rfl
theorem ft_111_8 : ft_m 111 8 = some (.getfield 214, 11, 8, 8, 740, 0, 0) := by rfl
theorem ft_111_11 : ft_m 111 11 = some (.i2l, 12, 0, 0, 0, 0, 0) := by rfl
theorem ft_111_12 : ft_m 111 12 = some (.lconst 1, 13, 0, 0, 0, 1, 0) := by rfl
theorem ft_111_13 : ft_m 111 13 = some (.ldc2_w 249, 16, 0, 0, 1006, 32, 0) := by rfl
theorem ft_111_16 : ft_m 111 16 = some (.invokestatic 70, 19, 75, 0, 838, 0, 0) := by rfl
theorem ft_111_19 : ft_m 111 19 = some (.ifCond .eq 7, 22, 26, 0, 0, 0, 0) := by rfl
theorem ft_111_22 : ft_m 111 22 = some (.iconst 1, 23, 0, 0, 0, 0, nI 1) := by rfl
theorem ft_111_23 : ft_m 111 23 = some (.goto 4, 26, 27, 0, 0, 0, 0) := by rfl
theorem ft_111_26 : ft_m 111 26 = some (.iconst 0, 27, 0, 0, 0, 0, nI 0) := by rfl
theorem ft_111_27 : ft_m 111 27 = some (.ireturn, 28, 0, 0, 0, 0, 0) := by rfl
theorem ft_112_0 : ft_m 112 0 = some (.aload_n 1, 1, 1, 0, 0, 0, 0) := by rfl
theorem ft_112_1 : ft_m 112 1 = some (.bipush 65, 3, 0, 0, 0, 0, nI 65) := by rfl
theorem ft_112_3 : ft_m 112 3 = some (.laload, 4, 0, 0, 0, 0, 0) := by rfl
theorem ft_112_4 : ft_m 112 4 = some (.lconst 0, 5, 0, 0, 0, 0, 0) := by rfl
theorem ft_112_5 : ft_m 112 5 = some (.lcmp, 6, 0, 0, 0, 0, 0) := by rfl
theorem ft_112_6 : ft_m 112 6 = some (.ifCond .ge 7, 9, 13, 0, 0, 0, 0) := by rfl
theorem ft_112_9 : ft_m 112 9 = some (.iconst 1, 10, 0, 0, 0, 0, nI 1) := by rfl
theorem ft_112_10 : ft_m 112 10 = some (.goto 4, 13, 14, 0, 0, 0, 0) := by rfl
theorem ft_112_13 : ft_m 112 13 = some (.iconst 0, 14, 0, 0, 0, 0, nI 0) := by rfl
theorem ft_112_14 : ft_m 112 14 = some (.istore_n 2, 15, 2, 0, 0, 0, 0) := by rfl
theorem ft_112_15 : ft_m 112 15 = some (.iconst 0, 16, 0, 0, 0, 0, nI 0) := by rfl
theorem ft_112_16 : ft_m 112 16 = some (.istore_n 3, 17, 3, 0, 0, 0, 0) := by rfl
theorem ft_112_17 : ft_m 112 17 = some (.iload_n 3, 18, 3, 0, 0, 0, 0) := by rfl
theorem ft_112_18 : ft_m 112 18 = some (.bipush 66, 20, 0, 0, 0, 0, nI 66) := by rfl
theorem ft_112_20 : ft_m 112 20 = some (.if_icmp .ge 20, 23, 40, 0, 0, 0, 0) := by rfl
theorem ft_112_23 : ft_m 112 23 = some (.iload_n 2, 24, 2, 0, 0, 0, 0) := by rfl
theorem ft_112_24 : ft_m 112 24 = some (.ifCond .eq 16, 27, 40, 0, 0, 0, 0) := by rfl
theorem ft_112_27 : ft_m 112 27 = some (.aload_n 1, 28, 1, 0, 0, 0, 0) := by rfl
theorem ft_112_28 : ft_m 112 28 = some (.iload_n 3, 29, 3, 0, 0, 0, 0) := by rfl
theorem ft_112_29 : ft_m 112 29 = some (.aload_n 1, 30, 1, 0, 0, 0, 0) := by rfl
theorem ft_112_30 : ft_m 112 30 = some (.iload_n 3, 31, 3, 0, 0, 0, 0) := by rfl
theorem ft_112_31 : ft_m 112 31 = some (.laload, 32, 0, 0, 0, 0, 0) := by rfl
theorem ft_112_32 : ft_m 112 32 = some (.lneg, 33, 0, 0, 0, 0, 0) := by rfl
theorem ft_112_33 : ft_m 112 33 = some (.lastore, 34, 0, 0, 0, 0, 0) := by rfl
theorem ft_112_34 : ft_m 112 34 = some (.iinc 3 1, 37, 3, 0, 0, 0, nI 1) := by rfl
theorem ft_112_37 : ft_m 112 37 = some (.goto (-20), 40, 17, 0, 0, 0, 0) := by rfl
theorem ft_112_40 : ft_m 112 40 = some (.aload_n 0, 41, 0, 0, 0, 0, 0) := by rfl
theorem ft_112_41 : ft_m 112 41 = some (.aload_n 1, 42, 1, 0, 0, 0, 0) := by rfl
theorem ft_112_42 : ft_m 112 42 = some (.invokevirtual 241, 45, 107, 0, 986, 0, 0) := by rfl
theorem ft_112_45 : ft_m 112 45 = some (.iload_n 2, 46, 2, 0, 0, 0, 0) := by rfl
theorem ft_112_46 : ft_m 112 46 = some (.ireturn, 47, 0, 0, 0, 0, 0) := by rfl
theorem ft_113_0 : ft_m 113 0 = some (.aload_n 0, 1, 0, 0, 0, 0, 0) := by rfl
theorem ft_113_1 : ft_m 113 1 = some (.invokevirtual 251, 4, 111, 0, 1002, 0, 0) := by rfl
theorem ft_113_4 : ft_m 113 4 = some (.ifCond .eq 17, 7, 21, 0, 0, 0, 0) := by rfl
theorem ft_113_7 : ft_m 113 7 = some (.iload_n 1, 8, 1, 0, 0, 0, 0) := by rfl
theorem ft_113_8 : ft_m 113 8 = some (.i2l, 9, 0, 0, 0, 0, 0) := by rfl
theorem ft_113_9 : ft_m 113 9 = some (.ldc2_w 142, 12, 0, 0, 904, (-1), 0) := by rfl
theorem ft_113_12 : ft_m 113 12 = some (.ldc2_w 260, 15, 0, 0, 1016, 799, 0) := by rfl
theorem ft_113_15 : ft_m 113 15 = some (.invokestatic 70, 18, 75, 0, 838, 0, 0) := by rfl
theorem ft_113_18 : ft_m 113 18 = some (.ifCond .ne 5, 21, 23, 0, 0, 0, 0) := by rfl
theorem ft_113_21 : ft_m 113 21 = some (.iconst (-1), 22, 0, 0, 0, 0, (-1)) := by rfl
theorem ft_113_22 : ft_m 113 22 = some (.ireturn, 23, 0, 0, 0, 0, 0) := by rfl
theorem ft_113_23 : ft_m 113 23 = some (.iconst 0, 24, 0, 0, 0, 0, nI 0) := by rfl
theorem ft_113_24 : ft_m 113 24 = some (.istore_n 2, 25, 2, 0, 0, 0, 0) := by rfl
theorem ft_113_25 : ft_m 113 25 = some (.iload_n 2, 26, 2, 0, 0, 0, 0) := by rfl
theorem ft_113_26 : ft_m 113 26 = some (.bipush 66, 28, 0, 0, 0, 0, nI 66) := by rfl
theorem ft_113_28 : ft_m 113 28 = some (.if_icmp .ge 21, 31, 49, 0, 0, 0, 0) := by rfl
theorem ft_113_31 : ft_m 113 31 = some (.aload_n 0, 32, 0, 0, 0, 0, 0) := by rfl
theorem ft_113_32 : ft_m 113 32 = some (.getfield 63, 35, 8, 32, 763, 0, 0) := by rfl
theorem ft_113_35 : ft_m 113 35 = some (.iload_n 2, 36, 2, 0, 0, 0, 0) := by rfl
theorem ft_113_36 : ft_m 113 36 = some (.aload_n 0, 37, 0, 0, 0, 0, 0) := by rfl
theorem ft_113_37 : ft_m 113 37 = some (.getfield 60, 40, 8, 31, 762, 0, 0) := by rfl
theorem ft_113_40 : ft_m 113 40 = some (.iload_n 2, 41, 2, 0, 0, 0, 0) := by rfl
theorem ft_113_41 : ft_m 113 41 = some (.laload, 42, 0, 0, 0, 0, 0) := by rfl
theorem ft_113_42 : ft_m 113 42 = some (.lastore, 43, 0, 0, 0, 0, 0) := by rfl
theorem ft_113_43 : ft_m 113 43 = some (.iinc 2 1, 46, 2, 0, 0, 0, nI 1) := by rfl
theorem ft_113_46 : ft_m 113 46 = some (.goto (-21), 49, 25, 0, 0, 0, 0) := by rfl
theorem ft_113_49 : ft_m 113 49 = some (.aload_n 0, 50, 0, 0, 0, 0, 0) := by rfl
theorem ft_113_50 : ft_m 113 50 = some (.aload_n 0, 51, 0, 0, 0, 0, 0) := by rfl
theorem ft_113_51 : ft_m 113 51 = some (.getfield 63, 54, 8, 32, 763, 0, 0) := by rfl
theorem ft_113_54 : ft_m 113 54 = some (.invokevirtual 256, 57, 112, 0, 1008, 0, 0) := by rfl
theorem ft_113_57 : ft_m 113 57 = some (.istore_n 2, 58, 2, 0, 0, 0, 0) := by rfl
theorem ft_113_58 : ft_m 113 58 = some (.iload_n 1, 59, 1, 0, 0, 0, 0) := by rfl
theorem ft_113_59 : ft_m 113 59 = some (.iconst (-1), 60, 0, 0, 0, 0, (-1)) := by rfl
theorem ft_113_60 : ft_m 113 60 = some (.if_icmp .ne 15, 63, 75, 0, 0, 0, 0) := by rfl
theorem ft_113_63 : ft_m 113 63 = some (.iload_n 2, 64, 2, 0, 0, 0, 0) := by rfl
theorem ft_113_64 : ft_m 113 64 = some (.ifCond .eq 7, 67, 71, 0, 0, 0, 0) := by rfl
theorem ft_113_67 : ft_m 113 67 = some (.iconst 1, 68, 0, 0, 0, 0, nI 1) := by rfl
theorem ft_113_68 : ft_m 113 68 = some (.goto 24, 71, 92, 0, 0, 0, 0) := by rfl
theorem ft_113_71 : ft_m 113 71 = some (.iconst 0, 72, 0, 0, 0, 0, nI 0) := by rfl
theorem ft_113_72 : ft_m 113 72 = some (.goto 20, 75, 92, 0, 0, 0, 0) := by rfl
theorem ft_113_75 : ft_m 113 75 = some (.aload_n 0, 76, 0, 0, 0, 0, 0) := by rfl
theorem ft_113_76 : ft_m 113 76 = some (.getfield 63, 79, 8, 32, 763, 0, 0) := by rfl
theorem ft_113_79 : ft_m 113 79 = some (.iload_n 1, 80, 1, 0, 0, 0, 0) := by rfl
theorem ft_113_80 : ft_m 113 80 = some (.bipush 14, 82, 0, 0, 0, 0, nI 14) := by rfl
theorem ft_113_82 : ft_m 113 82 = some (.idiv, 83, 0, 0, 0, 0, 0) := by rfl
theorem ft_113_83 : ft_m 113 83 = some (.laload, 84, 0, 0, 0, 0, 0) := by rfl
theorem ft_113_84 : ft_m 113 84 = some (.iload_n 1, 85, 1, 0, 0, 0, 0) := by rfl
theorem ft_113_85 : ft_m 113 85 = some (.bipush 14, 87, 0, 0, 0, 0, nI 14) := by rfl
theorem ft_113_87 : ft_m 113 87 = some (.irem, 88, 0, 0, 0, 0, 0) := by rfl
theorem ft_113_88 : ft_m 113 88 = some (.lshr, 89, 0, 0, 0, 0, 0) := by rfl
theorem ft_113_89 : ft_m 113 89 = some (.l2i, 90, 0, 0, 0, 0, 0) := by rfl
theorem ft_113_90 : ft_m 113 90 = some (.iconst 1, 91, 0, 0, 0, 0, nI 1) := by rfl
theorem ft_113_91 : ft_m 113 91 = some (.iand, 92, 0, 0, 0, 0, 0) := by rfl
theorem ft_113_92 : ft_m 113 92 = some (.ireturn, 93, 0, 0, 0, 0, 0) := by rfl
theorem ft_114_0 : ft_m 114 0 = some (.aload_n 0, 1, 0, 0, 0, 0, 0) := by rfl
theorem ft_114_1 : ft_m 114 1 = some (.getfield 78, 4, 8, 4, 736, 0, 0) := by rfl
theorem ft_114_4 : ft_m 114 4 = some (.ifCond .ne 5, 7, 9, 0, 0, 0, 0) := by rfl
theorem ft_114_7 : ft_m 114 7 = some (.iconst (-1), 8, 0, 0, 0, 0, (-1)) := by rfl
theorem ft_114_8 : ft_m 114 8 = some (.ireturn, 9, 0, 0, 0, 0, 0) := by rfl
theorem ft_114_9 : ft_m 114 9 = some (.aload_n 0, 10, 0, 0, 0, 0, 0) := by rfl
theorem ft_114_10 : ft_m 114 10 = some (.getfield 214, 13, 8, 8, 740, 0, 0) := by rfl
theorem ft_114_13 : ft_m 114 13 = some (.istore_n 1, 14, 1, 0, 0, 0, 0) := by rfl
theorem ft_114_14 : ft_m 114 14 = some (.aload_n 0, 15, 0, 0, 0, 0, 0) := by rfl
theorem ft_114_15 : ft_m 114 15 = some (.invokevirtual 211, 18, 98, 0, 945, 0, 0) := by rfl
theorem ft_114_18 : ft_m 114 18 = some (.iload_n 1, 19, 1, 0, 0, 0, 0) := by rfl
theorem ft_114_19 : ft_m 114 19 = some (.ireturn, 20, 0, 0, 0, 0, 0) := by rfl
