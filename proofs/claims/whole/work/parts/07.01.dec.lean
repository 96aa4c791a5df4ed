theorem dX10_beside_67 : decode cX10_beside 67 = .ok (.aload_n 0, 1) := by decide +kernel
theorem dX10_beside_68 : decode cX10_beside 68 = .ok (.getfield 85, 3) := by decide +kernel
theorem dX10_beside_71 : decode cX10_beside 71 = .ok (.iload 5, 2) := by decide +kernel
theorem dX10_beside_73 : decode cX10_beside 73 = .ok (.iload 4, 2) := by decide +kernel
theorem dX10_beside_75 : decode cX10_beside 75 = .ok (.iconst 2, 1) := by decide +kernel
theorem dX10_beside_76 : decode cX10_beside 76 = .ok (.if_icmp .ne 7, 3) := by decide +kernel
theorem dX10_beside_79 : decode cX10_beside 79 = .ok (.iconst (-1), 1) := by decide +kernel
theorem dX10_beside_80 : decode cX10_beside 80 = .ok (.goto 11, 3) := by decide +kernel
theorem dX10_beside_83 : decode cX10_beside 83 = .ok (.aload_n 0, 1) := by decide +kernel
theorem dX10_beside_84 : decode cX10_beside 84 = .ok (.iload 7, 2) := by decide +kernel
theorem dX10_beside_86 : decode cX10_beside 86 = .ok (.iload_n 2, 1) := by decide +kernel
theorem dX10_beside_87 : decode cX10_beside 87 = .ok (.iload_n 3, 1) := by decide +kernel
theorem dX10_beside_88 : decode cX10_beside 88 = .ok (.invokevirtual 300, 3) := by decide +kernel
theorem dX10_beside_91 : decode cX10_beside 91 = .ok (.iastore, 1) := by decide +kernel
theorem dX10_beside_92 : decode cX10_beside 92 = .ok (.iinc 5 1, 3) := by decide +kernel
theorem dX10_beside_95 : decode cX10_beside 95 = .ok (.iinc 6 1, 3) := by decide +kernel
theorem dX10_beside_98 : decode cX10_beside 98 = .ok (.goto (-69), 3) := by decide +kernel
theorem dX10_beside_101 : decode cX10_beside 101 = .ok (.iload 4, 2) := by decide +kernel
theorem dX10_beside_103 : decode cX10_beside 103 = .ok (.iconst 2, 1) := by decide +kernel
theorem dX10_beside_104 : decode cX10_beside 104 = .ok (.if_icmp .ne 6, 3) := by decide +kernel
theorem dX10_beside_107 : decode cX10_beside 107 = .ok (.iload 5, 2) := by decide +kernel
theorem dX10_beside_109 : decode cX10_beside 109 = .ok (.ireturn, 1) := by decide +kernel
theorem dX10_beside_110 : decode cX10_beside 110 = .ok (.iconst (-1), 1) := by decide +kernel
theorem dX10_beside_111 : decode cX10_beside 111 = .ok (.istore 6, 2) := by decide +kernel
theorem dX10_beside_113 : decode cX10_beside 113 = .ok (.iconst 0, 1) := by decide +kernel
theorem dX10_beside_114 : decode cX10_beside 114 = .ok (.istore 7, 2) := by decide +kernel
theorem dX10_beside_116 : decode cX10_beside 116 = .ok (.iconst 0, 1) := by decide +kernel
theorem dX10_beside_117 : decode cX10_beside 117 = .ok (.istore 8, 2) := by decide +kernel
theorem dX10_beside_119 : decode cX10_beside 119 = .ok (.iload 8, 2) := by decide +kernel
theorem dX10_beside_121 : decode cX10_beside 121 = .ok (.iload 5, 2) := by decide +kernel
theorem dX10_beside_123 : decode cX10_beside 123 = .ok (.if_icmp .ge 84, 3) := by decide +kernel
theorem dX10_beside_126 : decode cX10_beside 126 = .ok (.aload_n 0, 1) := by decide +kernel
theorem dX10_beside_127 : decode cX10_beside 127 = .ok (.getfield 85, 3) := by decide +kernel
theorem dX10_beside_130 : decode cX10_beside 130 = .ok (.iload 8, 2) := by decide +kernel
theorem dX10_beside_132 : decode cX10_beside 132 = .ok (.iaload, 1) := by decide +kernel
theorem dX10_beside_133 : decode cX10_beside 133 = .ok (.iconst (-1), 1) := by decide +kernel
theorem dX10_beside_134 : decode cX10_beside 134 = .ok (.if_icmp .ne 7, 3) := by decide +kernel
theorem dX10_beside_137 : decode cX10_beside 137 = .ok (.iconst 0, 1) := by decide +kernel
theorem dX10_beside_138 : decode cX10_beside 138 = .ok (.goto 17, 3) := by decide +kernel
theorem dX10_beside_141 : decode cX10_beside 141 = .ok (.aload_n 0, 1) := by decide +kernel
theorem dX10_beside_142 : decode cX10_beside 142 = .ok (.aload_n 0, 1) := by decide +kernel
theorem dX10_beside_143 : decode cX10_beside 143 = .ok (.getfield 85, 3) := by decide +kernel
theorem dX10_beside_146 : decode cX10_beside 146 = .ok (.iload 8, 2) := by decide +kernel
theorem dX10_beside_148 : decode cX10_beside 148 = .ok (.iaload, 1) := by decide +kernel
theorem dX10_beside_149 : decode cX10_beside 149 = .ok (.iconst 0, 1) := by decide +kernel
theorem dX10_beside_150 : decode cX10_beside 150 = .ok (.iload 5, 2) := by decide +kernel
theorem dX10_beside_152 : decode cX10_beside 152 = .ok (.invokevirtual 303, 3) := by decide +kernel
theorem dX10_beside_155 : decode cX10_beside 155 = .ok (.istore 9, 2) := by decide +kernel
theorem dX10_beside_157 : decode cX10_beside 157 = .ok (.iload 9, 2) := by decide +kernel
theorem dX10_beside_159 : decode cX10_beside 159 = .ok (.iload 7, 2) := by decide +kernel
theorem dX10_beside_161 : decode cX10_beside 161 = .ok (.if_icmp .gt 27, 3) := by decide +kernel
theorem dX10_beside_164 : decode cX10_beside 164 = .ok (.iload 9, 2) := by decide +kernel
theorem dX10_beside_166 : decode cX10_beside 166 = .ok (.ifCond .le 35, 3) := by decide +kernel
theorem dX10_beside_169 : decode cX10_beside 169 = .ok (.iload 9, 2) := by decide +kernel
theorem dX10_beside_171 : decode cX10_beside 171 = .ok (.iload 7, 2) := by decide +kernel
theorem dX10_beside_173 : decode cX10_beside 173 = .ok (.if_icmp .ne 28, 3) := by decide +kernel
theorem dX10_beside_176 : decode cX10_beside 176 = .ok (.aload_n 0, 1) := by decide +kernel
theorem dX10_beside_177 : decode cX10_beside 177 = .ok (.getfield 85, 3) := by decide +kernel
theorem dX10_beside_180 : decode cX10_beside 180 = .ok (.iload 8, 2) := by decide +kernel
theorem dX10_beside_182 : decode cX10_beside 182 = .ok (.iaload, 1) := by decide +kernel
theorem dX10_beside_183 : decode cX10_beside 183 = .ok (.iload 6, 2) := by decide +kernel
theorem dX10_beside_185 : decode cX10_beside 185 = .ok (.if_icmp .ge 16, 3) := by decide +kernel
theorem dX10_beside_188 : decode cX10_beside 188 = .ok (.aload_n 0, 1) := by decide +kernel
theorem dX10_beside_189 : decode cX10_beside 189 = .ok (.getfield 85, 3) := by decide +kernel
theorem dX10_beside_192 : decode cX10_beside 192 = .ok (.iload 8, 2) := by decide +kernel
theorem dX10_beside_194 : decode cX10_beside 194 = .ok (.iaload, 1) := by decide +kernel
theorem dX10_beside_195 : decode cX10_beside 195 = .ok (.istore 6, 2) := by decide +kernel
theorem dX10_beside_197 : decode cX10_beside 197 = .ok (.iload 9, 2) := by decide +kernel
theorem dX10_beside_199 : decode cX10_beside 199 = .ok (.istore 7, 2) := by decide +kernel
theorem dX10_beside_201 : decode cX10_beside 201 = .ok (.iinc 8 1, 3) := by decide +kernel
theorem dX10_beside_204 : decode cX10_beside 204 = .ok (.goto (-85), 3) := by decide +kernel
theorem dX10_beside_207 : decode cX10_beside 207 = .ok (.iload 4, 2) := by decide +kernel
theorem dX10_beside_209 : decode cX10_beside 209 = .ok (.ifCond .ne 8, 3) := by decide +kernel
theorem dX10_beside_212 : decode cX10_beside 212 = .ok (.iload 6, 2) := by decide +kernel
theorem dX10_beside_214 : decode cX10_beside 214 = .ok (.goto 5, 3) := by decide +kernel
theorem dX10_beside_217 : decode cX10_beside 217 = .ok (.iload 7, 2) := by decide +kernel
theorem dX10_beside_219 : decode cX10_beside 219 = .ok (.ireturn, 1) := by decide +kernel
theorem dX10_mayThrow_0 : decode cX10_mayThrow 0 = .ok (.iload_n 1, 1) := by decide +kernel
theorem dX10_mayThrow_1 : decode cX10_mayThrow 1 = .ok (.iconst 0, 1) := by decide +kernel
theorem dX10_mayThrow_2 : decode cX10_mayThrow 2 = .ok (.aload_n 0, 1) := by decide +kernel
theorem dX10_mayThrow_3 : decode cX10_mayThrow 3 = .ok (.getfield 24, 3) := by decide +kernel
theorem dX10_mayThrow_6 : decode cX10_mayThrow 6 = .ok (.getfield 110, 3) := by decide +kernel
theorem dX10_mayThrow_9 : decode cX10_mayThrow 9 = .ok (.getfield 357, 3) := by decide +kernel
theorem dX10_mayThrow_12 : decode cX10_mayThrow 12 = .ok (.iconst 1, 1) := by decide +kernel
theorem dX10_mayThrow_13 : decode cX10_mayThrow 13 = .ok (.isub, 1) := by decide +kernel
theorem dX10_mayThrow_14 : decode cX10_mayThrow 14 = .ok (.invokestatic 133, 3) := by decide +kernel
theorem dX10_mayThrow_17 : decode cX10_mayThrow 17 = .ok (.ifCond .eq 25, 3) := by decide +kernel
theorem dX10_mayThrow_20 : decode cX10_mayThrow 20 = .ok (.aload_n 0, 1) := by decide +kernel
theorem dX10_mayThrow_21 : decode cX10_mayThrow 21 = .ok (.iload_n 2, 1) := by decide +kernel
theorem dX10_mayThrow_22 : decode cX10_mayThrow 22 = .ok (.invokevirtual 163, 3) := by decide +kernel
theorem dX10_mayThrow_25 : decode cX10_mayThrow 25 = .ok (.ifCond .eq 17, 3) := by decide +kernel
theorem dX10_mayThrow_28 : decode cX10_mayThrow 28 = .ok (.iload_n 3, 1) := by decide +kernel
theorem dX10_mayThrow_29 : decode cX10_mayThrow 29 = .ok (.iconst 0, 1) := by decide +kernel
theorem dX10_mayThrow_30 : decode cX10_mayThrow 30 = .ok (.bipush 99, 2) := by decide +kernel
theorem dX10_mayThrow_32 : decode cX10_mayThrow 32 = .ok (.invokestatic 133, 3) := by decide +kernel
theorem dX10_mayThrow_35 : decode cX10_mayThrow 35 = .ok (.ifCond .eq 7, 3) := by decide +kernel
theorem dX10_mayThrow_38 : decode cX10_mayThrow 38 = .ok (.iconst 1, 1) := by decide +kernel
theorem dX10_mayThrow_39 : decode cX10_mayThrow 39 = .ok (.goto 4, 3) := by decide +kernel
theorem dX10_mayThrow_42 : decode cX10_mayThrow 42 = .ok (.iconst 0, 1) := by decide +kernel
theorem dX10_mayThrow_43 : decode cX10_mayThrow 43 = .ok (.ireturn, 1) := by decide +kernel
theorem dX3_greyShade_0 : decode cX3_greyShade 0 = .ok (.aload_n 0, 1) := by decide +kernel
theorem dX3_greyShade_1 : decode cX3_greyShade 1 = .ok (.getfield 140, 3) := by decide +kernel
theorem dX3_greyShade_4 : decode cX3_greyShade 4 = .ok (.ifCond .le 7, 3) := by decide +kernel
theorem dX3_greyShade_7 : decode cX3_greyShade 7 = .ok (.iconst 1, 1) := by decide +kernel
theorem dX3_greyShade_8 : decode cX3_greyShade 8 = .ok (.goto 4, 3) := by decide +kernel
theorem dX3_greyShade_11 : decode cX3_greyShade 11 = .ok (.iconst 0, 1) := by decide +kernel
theorem dX3_greyShade_12 : decode cX3_greyShade 12 = .ok (.istore_n 3, 1) := by decide +kernel
theorem dX3_greyShade_13 : decode cX3_greyShade 13 = .ok (.iconst 0, 1) := by decide +kernel
theorem dX3_greyShade_14 : decode cX3_greyShade 14 = .ok (.istore 4, 2) := by decide +kernel
theorem dX3_greyShade_16 : decode cX3_greyShade 16 = .ok (.iload 4, 2) := by decide +kernel
theorem dX3_greyShade_18 : decode cX3_greyShade 18 = .ok (.iconst 3, 1) := by decide +kernel
theorem dX3_greyShade_19 : decode cX3_greyShade 19 = .ok (.if_icmp .ge 36, 3) := by decide +kernel
theorem dX3_greyShade_22 : decode cX3_greyShade 22 = .ok (.iload_n 3, 1) := by decide +kernel
theorem dX3_greyShade_23 : decode cX3_greyShade 23 = .ok (.aload_n 0, 1) := by decide +kernel
theorem dX3_greyShade_24 : decode cX3_greyShade 24 = .ok (.getfield 22, 3) := by decide +kernel
theorem dX3_greyShade_27 : decode cX3_greyShade 27 = .ok (.iload 4, 2) := by decide +kernel
theorem dX3_greyShade_29 : decode cX3_greyShade 29 = .ok (.iaload, 1) := by decide +kernel
theorem dX3_greyShade_30 : decode cX3_greyShade 30 = .ok (.aload_n 0, 1) := by decide +kernel
theorem dX3_greyShade_31 : decode cX3_greyShade 31 = .ok (.getfield 19, 3) := by decide +kernel
theorem dX3_greyShade_34 : decode cX3_greyShade 34 = .ok (.iload 4, 2) := by decide +kernel
theorem dX3_greyShade_36 : decode cX3_greyShade 36 = .ok (.iaload, 1) := by decide +kernel
theorem dX3_greyShade_37 : decode cX3_greyShade 37 = .ok (.isub, 1) := by decide +kernel
theorem dX3_greyShade_38 : decode cX3_greyShade 38 = .ok (.iload_n 1, 1) := by decide +kernel
theorem dX3_greyShade_39 : decode cX3_greyShade 39 = .ok (.if_icmp .gt 7, 3) := by decide +kernel
theorem dX3_greyShade_42 : decode cX3_greyShade 42 = .ok (.iconst 1, 1) := by decide +kernel
theorem dX3_greyShade_43 : decode cX3_greyShade 43 = .ok (.goto 4, 3) := by decide +kernel
theorem dX3_greyShade_46 : decode cX3_greyShade 46 = .ok (.iconst 0, 1) := by decide +kernel
theorem dX3_greyShade_47 : decode cX3_greyShade 47 = .ok (.iand, 1) := by decide +kernel
theorem dX3_greyShade_48 : decode cX3_greyShade 48 = .ok (.istore_n 3, 1) := by decide +kernel
theorem dX3_greyShade_49 : decode cX3_greyShade 49 = .ok (.iinc 4 1, 3) := by decide +kernel
theorem dX3_greyShade_52 : decode cX3_greyShade 52 = .ok (.goto (-36), 3) := by decide +kernel
theorem dX3_greyShade_55 : decode cX3_greyShade 55 = .ok (.iload_n 3, 1) := by decide +kernel
theorem dX3_greyShade_56 : decode cX3_greyShade 56 = .ok (.ifCond .eq 21, 3) := by decide +kernel
theorem dX3_greyShade_59 : decode cX3_greyShade 59 = .ok (.aload_n 0, 1) := by decide +kernel
theorem dX3_greyShade_60 : decode cX3_greyShade 60 = .ok (.getfield 19, 3) := by decide +kernel
theorem dX3_greyShade_63 : decode cX3_greyShade 63 = .ok (.iload_n 2, 1) := by decide +kernel
theorem dX3_greyShade_64 : decode cX3_greyShade 64 = .ok (.iaload, 1) := by decide +kernel
theorem dX3_greyShade_65 : decode cX3_greyShade 65 = .ok (.aload_n 0, 1) := by decide +kernel
theorem dX3_greyShade_66 : decode cX3_greyShade 66 = .ok (.getfield 22, 3) := by decide +kernel
theorem dX3_greyShade_69 : decode cX3_greyShade 69 = .ok (.iload_n 2, 1) := by decide +kernel
theorem dX3_greyShade_70 : decode cX3_greyShade 70 = .ok (.iaload, 1) := by decide +kernel
theorem dX3_greyShade_71 : decode cX3_greyShade 71 = .ok (.iadd, 1) := by decide +kernel
theorem dX3_greyShade_72 : decode cX3_greyShade 72 = .ok (.iconst 2, 1) := by decide +kernel
theorem dX3_greyShade_73 : decode cX3_greyShade 73 = .ok (.idiv, 1) := by decide +kernel
theorem dX3_greyShade_74 : decode cX3_greyShade 74 = .ok (.goto 5, 3) := by decide +kernel
theorem dX3_greyShade_77 : decode cX3_greyShade 77 = .ok (.bipush 50, 2) := by decide +kernel
theorem dX3_greyShade_79 : decode cX3_greyShade 79 = .ok (.ireturn, 1) := by decide +kernel
theorem dX5_shadeOf_0 : decode cX5_shadeOf 0 = .ok (.iconst 0, 1) := by decide +kernel
theorem dX5_shadeOf_1 : decode cX5_shadeOf 1 = .ok (.bipush 99, 2) := by decide +kernel
theorem dX5_shadeOf_3 : decode cX5_shadeOf 3 = .ok (.aload_n 0, 1) := by decide +kernel
theorem dX5_shadeOf_4 : decode cX5_shadeOf 4 = .ok (.getfield 9, 3) := by decide +kernel
theorem dX5_shadeOf_7 : decode cX5_shadeOf 7 = .ok (.aload_n 0, 1) := by decide +kernel
theorem dX5_shadeOf_8 : decode cX5_shadeOf 8 = .ok (.getfield 15, 3) := by decide +kernel
theorem dX5_shadeOf_11 : decode cX5_shadeOf 11 = .ok (.getfield 39, 3) := by decide +kernel
theorem dX5_shadeOf_14 : decode cX5_shadeOf 14 = .ok (.iload_n 1, 1) := by decide +kernel
theorem dX5_shadeOf_15 : decode cX5_shadeOf 15 = .ok (.iaload, 1) := by decide +kernel
theorem dX5_shadeOf_16 : decode cX5_shadeOf 16 = .ok (.iconst 3, 1) := by decide +kernel
theorem dX5_shadeOf_17 : decode cX5_shadeOf 17 = .ok (.imul, 1) := by decide +kernel
theorem dX5_shadeOf_18 : decode cX5_shadeOf 18 = .ok (.iload_n 2, 1) := by decide +kernel
theorem dX5_shadeOf_19 : decode cX5_shadeOf 19 = .ok (.iadd, 1) := by decide +kernel
theorem dX5_shadeOf_20 : decode cX5_shadeOf 20 = .ok (.iaload, 1) := by decide +kernel
theorem dX5_shadeOf_21 : decode cX5_shadeOf 21 = .ok (.isub, 1) := by decide +kernel
theorem dX5_shadeOf_22 : decode cX5_shadeOf 22 = .ok (.aload_n 0, 1) := by decide +kernel
theorem dX5_shadeOf_23 : decode cX5_shadeOf 23 = .ok (.getfield 9, 3) := by decide +kernel
theorem dX5_shadeOf_26 : decode cX5_shadeOf 26 = .ok (.aload_n 0, 1) := by decide +kernel
theorem dX5_shadeOf_27 : decode cX5_shadeOf 27 = .ok (.getfield 15, 3) := by decide +kernel
theorem dX5_shadeOf_30 : decode cX5_shadeOf 30 = .ok (.getfield 42, 3) := by decide +kernel
theorem dX5_shadeOf_33 : decode cX5_shadeOf 33 = .ok (.iload_n 1, 1) := by decide +kernel
theorem dX5_shadeOf_34 : decode cX5_shadeOf 34 = .ok (.iaload, 1) := by decide +kernel
theorem dX5_shadeOf_35 : decode cX5_shadeOf 35 = .ok (.iconst 3, 1) := by decide +kernel
theorem dX5_shadeOf_36 : decode cX5_shadeOf 36 = .ok (.imul, 1) := by decide +kernel
theorem dX5_shadeOf_37 : decode cX5_shadeOf 37 = .ok (.iload_n 2, 1) := by decide +kernel
theorem dX5_shadeOf_38 : decode cX5_shadeOf 38 = .ok (.iadd, 1) := by decide +kernel
theorem dX5_shadeOf_39 : decode cX5_shadeOf 39 = .ok (.iaload, 1) := by decide +kernel
theorem dX5_shadeOf_40 : decode cX5_shadeOf 40 = .ok (.isub, 1) := by decide +kernel
theorem dX5_shadeOf_41 : decode cX5_shadeOf 41 = .ok (.invokestatic 45, 3) := by decide +kernel
theorem dX5_shadeOf_44 : decode cX5_shadeOf 44 = .ok (.ireturn, 1) := by decide +kernel
theorem dX3_measureSpan_0 : decode cX3_measureSpan 0 = .ok (.aload_n 0, 1) := by decide +kernel
theorem dX3_measureSpan_1 : decode cX3_measureSpan 1 = .ok (.getfield 50, 3) := by decide +kernel
theorem dX3_measureSpan_4 : decode cX3_measureSpan 4 = .ok (.iconst 0, 1) := by decide +kernel
theorem dX3_measureSpan_5 : decode cX3_measureSpan 5 = .ok (.invokevirtual 91, 3) := by decide +kernel
theorem dX3_measureSpan_8 : decode cX3_measureSpan 8 = .ok (.aload_n 0, 1) := by decide +kernel
theorem dX3_measureSpan_9 : decode cX3_measureSpan 9 = .ok (.getfield 19, 3) := by decide +kernel
theorem dX3_measureSpan_12 : decode cX3_measureSpan 12 = .ok (.bipush 99, 2) := by decide +kernel
theorem dX3_measureSpan_14 : decode cX3_measureSpan 14 = .ok (.invokestatic 155, 3) := by decide +kernel
theorem dX3_measureSpan_17 : decode cX3_measureSpan 17 = .ok (.aload_n 0, 1) := by decide +kernel
theorem dX3_measureSpan_18 : decode cX3_measureSpan 18 = .ok (.getfield 22, 3) := by decide +kernel
theorem dX3_measureSpan_21 : decode cX3_measureSpan 21 = .ok (.iconst 0, 1) := by decide +kernel
theorem dX3_measureSpan_22 : decode cX3_measureSpan 22 = .ok (.invokestatic 155, 3) := by decide +kernel
theorem dX3_measureSpan_25 : decode cX3_measureSpan 25 = .ok (.iconst 0, 1) := by decide +kernel
theorem dX3_measureSpan_26 : decode cX3_measureSpan 26 = .ok (.istore_n 1, 1) := by decide +kernel
theorem dX3_measureSpan_27 : decode cX3_measureSpan 27 = .ok (.iload_n 1, 1) := by decide +kernel
theorem dX3_measureSpan_28 : decode cX3_measureSpan 28 = .ok (.aload_n 0, 1) := by decide +kernel
theorem dX3_measureSpan_29 : decode cX3_measureSpan 29 = .ok (.getfield 37, 3) := by decide +kernel
theorem dX3_measureSpan_32 : decode cX3_measureSpan 32 = .ok (.getfield 72, 3) := by decide +kernel
theorem dX3_measureSpan_35 : decode cX3_measureSpan 35 = .ok (.if_icmp .ge 73, 3) := by decide +kernel
theorem dX3_measureSpan_38 : decode cX3_measureSpan 38 = .ok (.aload_n 0, 1) := by decide +kernel
theorem dX3_measureSpan_39 : decode cX3_measureSpan 39 = .ok (.getfield 13, 3) := by decide +kernel
theorem dX3_measureSpan_42 : decode cX3_measureSpan 42 = .ok (.iload_n 1, 1) := by decide +kernel
theorem dX3_measureSpan_43 : decode cX3_measureSpan 43 = .ok (.iaload, 1) := by decide +kernel
theorem dX3_measureSpan_44 : decode cX3_measureSpan 44 = .ok (.ifCond .eq 58, 3) := by decide +kernel
theorem dX3_measureSpan_47 : decode cX3_measureSpan 47 = .ok (.iconst 0, 1) := by decide +kernel
theorem dX3_measureSpan_48 : decode cX3_measureSpan 48 = .ok (.istore_n 2, 1) := by decide +kernel
theorem dX3_measureSpan_49 : decode cX3_measureSpan 49 = .ok (.iload_n 2, 1) := by decide +kernel
theorem dX3_measureSpan_50 : decode cX3_measureSpan 50 = .ok (.iconst 3, 1) := by decide +kernel
theorem dX3_measureSpan_51 : decode cX3_measureSpan 51 = .ok (.if_icmp .ge 51, 3) := by decide +kernel
theorem dX3_measureSpan_54 : decode cX3_measureSpan 54 = .ok (.aload_n 0, 1) := by decide +kernel
theorem dX3_measureSpan_55 : decode cX3_measureSpan 55 = .ok (.getfield 50, 3) := by decide +kernel
theorem dX3_measureSpan_58 : decode cX3_measureSpan 58 = .ok (.iload_n 1, 1) := by decide +kernel
theorem dX3_measureSpan_59 : decode cX3_measureSpan 59 = .ok (.iload_n 2, 1) := by decide +kernel
theorem dX3_measureSpan_60 : decode cX3_measureSpan 60 = .ok (.invokevirtual 158, 3) := by decide +kernel
theorem dX3_measureSpan_63 : decode cX3_measureSpan 63 = .ok (.istore_n 3, 1) := by decide +kernel
theorem dX3_measureSpan_64 : decode cX3_measureSpan 64 = .ok (.aload_n 0, 1) := by decide +kernel
theorem dX3_measureSpan_65 : decode cX3_measureSpan 65 = .ok (.getfield 19, 3) := by decide +kernel
theorem dX3_measureSpan_68 : decode cX3_measureSpan 68 = .ok (.iload_n 2, 1) := by decide +kernel
theorem dX3_measureSpan_69 : decode cX3_measureSpan 69 = .ok (.aload_n 0, 1) := by decide +kernel
theorem dX3_measureSpan_70 : decode cX3_measureSpan 70 = .ok (.getfield 19, 3) := by decide +kernel
theorem dX3_measureSpan_73 : decode cX3_measureSpan 73 = .ok (.iload_n 2, 1) := by decide +kernel
theorem dX3_measureSpan_74 : decode cX3_measureSpan 74 = .ok (.iaload, 1) := by decide +kernel
theorem dX3_measureSpan_75 : decode cX3_measureSpan 75 = .ok (.iload_n 3, 1) := by decide +kernel
theorem dX3_measureSpan_76 : decode cX3_measureSpan 76 = .ok (.invokestatic 161, 3) := by decide +kernel
theorem dX3_measureSpan_79 : decode cX3_measureSpan 79 = .ok (.iastore, 1) := by decide +kernel
theorem dX3_measureSpan_80 : decode cX3_measureSpan 80 = .ok (.aload_n 0, 1) := by decide +kernel
theorem dX3_measureSpan_81 : decode cX3_measureSpan 81 = .ok (.getfield 22, 3) := by decide +kernel
theorem dX3_measureSpan_84 : decode cX3_measureSpan 84 = .ok (.iload_n 2, 1) := by decide +kernel
theorem dX3_measureSpan_85 : decode cX3_measureSpan 85 = .ok (.aload_n 0, 1) := by decide +kernel
theorem dX3_measureSpan_86 : decode cX3_measureSpan 86 = .ok (.getfield 22, 3) := by decide +kernel
theorem dX3_measureSpan_89 : decode cX3_measureSpan 89 = .ok (.iload_n 2, 1) := by decide +kernel
theorem dX3_measureSpan_90 : decode cX3_measureSpan 90 = .ok (.iaload, 1) := by decide +kernel
theorem dX3_measureSpan_91 : decode cX3_measureSpan 91 = .ok (.iload_n 3, 1) := by decide +kernel
theorem dX3_measureSpan_92 : decode cX3_measureSpan 92 = .ok (.invokestatic 166, 3) := by decide +kernel
theorem dX3_measureSpan_95 : decode cX3_measureSpan 95 = .ok (.iastore, 1) := by decide +kernel
theorem dX3_measureSpan_96 : decode cX3_measureSpan 96 = .ok (.iinc 2 1, 3) := by decide +kernel
theorem dX3_measureSpan_99 : decode cX3_measureSpan 99 = .ok (.goto (-50), 3) := by decide +kernel
theorem dX3_measureSpan_102 : decode cX3_measureSpan 102 = .ok (.iinc 1 1, 3) := by decide +kernel
theorem dX3_measureSpan_105 : decode cX3_measureSpan 105 = .ok (.goto (-78), 3) := by decide +kernel
theorem dX3_measureSpan_108 : decode cX3_measureSpan 108 = .ok (.return_, 1) := by decide +kernel
theorem dX6_placeOf_0 : decode cX6_placeOf 0 = .ok (.iload_n 0, 1) := by decide +kernel
theorem dX6_placeOf_1 : decode cX6_placeOf 1 = .ok (.bipush 21, 2) := by decide +kernel
theorem dX6_placeOf_3 : decode cX6_placeOf 3 = .ok (.imul, 1) := by decide +kernel
theorem dX6_placeOf_4 : decode cX6_placeOf 4 = .ok (.iload_n 1, 1) := by decide +kernel
theorem dX6_placeOf_5 : decode cX6_placeOf 5 = .ok (.iadd, 1) := by decide +kernel
theorem dX6_placeOf_6 : decode cX6_placeOf 6 = .ok (.iconst 3, 1) := by decide +kernel
theorem dX6_placeOf_7 : decode cX6_placeOf 7 = .ok (.imul, 1) := by decide +kernel
theorem dX6_placeOf_8 : decode cX6_placeOf 8 = .ok (.ireturn, 1) := by decide +kernel
theorem dX6_mayDo_0 : decode cX6_mayDo 0 = .ok (.iconst 0, 1) := by decide +kernel
theorem dX6_mayDo_1 : decode cX6_mayDo 1 = .ok (.iload_n 1, 1) := by decide +kernel
theorem dX6_mayDo_2 : decode cX6_mayDo 2 = .ok (.invokestatic 55, 3) := by decide +kernel
theorem dX6_mayDo_5 : decode cX6_mayDo 5 = .ok (.istore 4, 2) := by decide +kernel
theorem dX6_mayDo_7 : decode cX6_mayDo 7 = .ok (.iconst 1, 1) := by decide +kernel
theorem dX6_mayDo_8 : decode cX6_mayDo 8 = .ok (.iload_n 2, 1) := by decide +kernel
theorem dX6_mayDo_9 : decode cX6_mayDo 9 = .ok (.invokestatic 55, 3) := by decide +kernel
theorem dX6_mayDo_12 : decode cX6_mayDo 12 = .ok (.istore 5, 2) := by decide +kernel
theorem dX6_mayDo_14 : decode cX6_mayDo 14 = .ok (.iconst 2, 1) := by decide +kernel
theorem dX6_mayDo_15 : decode cX6_mayDo 15 = .ok (.iload_n 3, 1) := by decide +kernel
theorem dX6_mayDo_16 : decode cX6_mayDo 16 = .ok (.invokestatic 55, 3) := by decide +kernel
theorem dX6_mayDo_19 : decode cX6_mayDo 19 = .ok (.istore 6, 2) := by decide +kernel
theorem dX6_mayDo_21 : decode cX6_mayDo 21 = .ok (.iconst 0, 1) := by decide +kernel
theorem dX6_mayDo_22 : decode cX6_mayDo 22 = .ok (.istore 7, 2) := by decide +kernel
theorem dX6_mayDo_24 : decode cX6_mayDo 24 = .ok (.iload 7, 2) := by decide +kernel
theorem dX6_mayDo_26 : decode cX6_mayDo 26 = .ok (.iconst 3, 1) := by decide +kernel
theorem dX6_mayDo_27 : decode cX6_mayDo 27 = .ok (.if_icmp .ge 72, 3) := by decide +kernel
theorem dX6_mayDo_30 : decode cX6_mayDo 30 = .ok (.aload_n 0, 1) := by decide +kernel
theorem dX6_mayDo_31 : decode cX6_mayDo 31 = .ok (.getfield 24, 3) := by decide +kernel
theorem dX6_mayDo_34 : decode cX6_mayDo 34 = .ok (.iload 4, 2) := by decide +kernel
theorem dX6_mayDo_36 : decode cX6_mayDo 36 = .ok (.iload 7, 2) := by decide +kernel
theorem dX6_mayDo_38 : decode cX6_mayDo 38 = .ok (.iadd, 1) := by decide +kernel
theorem dX6_mayDo_39 : decode cX6_mayDo 39 = .ok (.iaload, 1) := by decide +kernel
theorem dX6_mayDo_40 : decode cX6_mayDo 40 = .ok (.aload_n 0, 1) := by decide +kernel
theorem dX6_mayDo_41 : decode cX6_mayDo 41 = .ok (.getfield 24, 3) := by decide +kernel
theorem dX6_mayDo_44 : decode cX6_mayDo 44 = .ok (.iload 5, 2) := by decide +kernel
theorem dX6_mayDo_46 : decode cX6_mayDo 46 = .ok (.iload 7, 2) := by decide +kernel
theorem dX6_mayDo_48 : decode cX6_mayDo 48 = .ok (.iadd, 1) := by decide +kernel
theorem dX6_mayDo_49 : decode cX6_mayDo 49 = .ok (.iaload, 1) := by decide +kernel
theorem dX6_mayDo_50 : decode cX6_mayDo 50 = .ok (.iadd, 1) := by decide +kernel
theorem dX6_mayDo_51 : decode cX6_mayDo 51 = .ok (.aload_n 0, 1) := by decide +kernel
theorem dX6_mayDo_52 : decode cX6_mayDo 52 = .ok (.getfield 21, 3) := by decide +kernel
theorem dX6_mayDo_55 : decode cX6_mayDo 55 = .ok (.iload 7, 2) := by decide +kernel
theorem dX6_mayDo_57 : decode cX6_mayDo 57 = .ok (.iaload, 1) := by decide +kernel
theorem dX6_mayDo_58 : decode cX6_mayDo 58 = .ok (.isub, 1) := by decide +kernel
theorem dX6_mayDo_59 : decode cX6_mayDo 59 = .ok (.istore 8, 2) := by decide +kernel
theorem dX6_mayDo_61 : decode cX6_mayDo 61 = .ok (.iload 8, 2) := by decide +kernel
theorem dX6_mayDo_63 : decode cX6_mayDo 63 = .ok (.aload_n 0, 1) := by decide +kernel
theorem dX6_mayDo_64 : decode cX6_mayDo 64 = .ok (.getfield 32, 3) := by decide +kernel
theorem dX6_mayDo_67 : decode cX6_mayDo 67 = .ok (.if_icmp .gt 24, 3) := by decide +kernel
theorem dX6_mayDo_70 : decode cX6_mayDo 70 = .ok (.iload 8, 2) := by decide +kernel
theorem dX6_mayDo_72 : decode cX6_mayDo 72 = .ok (.aload_n 0, 1) := by decide +kernel
theorem dX6_mayDo_73 : decode cX6_mayDo 73 = .ok (.getfield 24, 3) := by decide +kernel
theorem dX6_mayDo_76 : decode cX6_mayDo 76 = .ok (.iload 6, 2) := by decide +kernel
theorem dX6_mayDo_78 : decode cX6_mayDo 78 = .ok (.iload 7, 2) := by decide +kernel
theorem dX6_mayDo_80 : decode cX6_mayDo 80 = .ok (.iadd, 1) := by decide +kernel
theorem dX6_mayDo_81 : decode cX6_mayDo 81 = .ok (.iaload, 1) := by decide +kernel
theorem dX6_mayDo_82 : decode cX6_mayDo 82 = .ok (.iadd, 1) := by decide +kernel
theorem dX6_mayDo_83 : decode cX6_mayDo 83 = .ok (.aload_n 0, 1) := by decide +kernel
theorem dX6_mayDo_84 : decode cX6_mayDo 84 = .ok (.getfield 32, 3) := by decide +kernel
theorem dX6_mayDo_87 : decode cX6_mayDo 87 = .ok (.ineg, 1) := by decide +kernel
theorem dX6_mayDo_88 : decode cX6_mayDo 88 = .ok (.if_icmp .ge 5, 3) := by decide +kernel
theorem dX6_mayDo_91 : decode cX6_mayDo 91 = .ok (.iconst 0, 1) := by decide +kernel
theorem dX6_mayDo_92 : decode cX6_mayDo 92 = .ok (.ireturn, 1) := by decide +kernel
theorem dX6_mayDo_93 : decode cX6_mayDo 93 = .ok (.iinc 7 1, 3) := by decide +kernel
theorem dX6_mayDo_96 : decode cX6_mayDo 96 = .ok (.goto (-72), 3) := by decide +kernel
theorem dX6_mayDo_99 : decode cX6_mayDo 99 = .ok (.iconst 1, 1) := by decide +kernel
theorem dX6_mayDo_100 : decode cX6_mayDo 100 = .ok (.ireturn, 1) := by decide +kernel
theorem dX6_sense_0 : decode cX6_sense 0 = .ok (.iconst 0, 1) := by decide +kernel
theorem dX6_sense_1 : decode cX6_sense 1 = .ok (.istore_n 3, 1) := by decide +kernel
theorem dX6_sense_2 : decode cX6_sense 2 = .ok (.iload_n 3, 1) := by decide +kernel
theorem dX6_sense_3 : decode cX6_sense 3 = .ok (.iconst 3, 1) := by decide +kernel
theorem dX6_sense_4 : decode cX6_sense 4 = .ok (.if_icmp .ge 117, 3) := by decide +kernel
theorem dX6_sense_7 : decode cX6_sense 7 = .ok (.aload_n 0, 1) := by decide +kernel
theorem dX6_sense_8 : decode cX6_sense 8 = .ok (.getfield 21, 3) := by decide +kernel
theorem dX6_sense_11 : decode cX6_sense 11 = .ok (.iload_n 3, 1) := by decide +kernel
theorem dX6_sense_12 : decode cX6_sense 12 = .ok (.iconst 0, 1) := by decide +kernel
theorem dX6_sense_13 : decode cX6_sense 13 = .ok (.iastore, 1) := by decide +kernel
theorem dX6_sense_14 : decode cX6_sense 14 = .ok (.iconst 0, 1) := by decide +kernel
theorem dX6_sense_15 : decode cX6_sense 15 = .ok (.istore 4, 2) := by decide +kernel
theorem dX6_sense_17 : decode cX6_sense 17 = .ok (.iload 4, 2) := by decide +kernel
theorem dX6_sense_19 : decode cX6_sense 19 = .ok (.iconst 3, 1) := by decide +kernel
theorem dX6_sense_20 : decode cX6_sense 20 = .ok (.if_icmp .ge 95, 3) := by decide +kernel
theorem dX6_sense_23 : decode cX6_sense 23 = .ok (.aload_n 1, 1) := by decide +kernel
theorem dX6_sense_24 : decode cX6_sense 24 = .ok (.getfield 52, 3) := by decide +kernel
theorem dX6_sense_27 : decode cX6_sense 27 = .ok (.iload_n 2, 1) := by decide +kernel
theorem dX6_sense_28 : decode cX6_sense 28 = .ok (.bipush 9, 2) := by decide +kernel
theorem dX6_sense_30 : decode cX6_sense 30 = .ok (.imul, 1) := by decide +kernel
theorem dX6_sense_31 : decode cX6_sense 31 = .ok (.iload_n 3, 1) := by decide +kernel
theorem dX6_sense_32 : decode cX6_sense 32 = .ok (.iconst 3, 1) := by decide +kernel
theorem dX6_sense_33 : decode cX6_sense 33 = .ok (.imul, 1) := by decide +kernel
theorem dX6_sense_34 : decode cX6_sense 34 = .ok (.iadd, 1) := by decide +kernel
theorem dX6_sense_35 : decode cX6_sense 35 = .ok (.iload 4, 2) := by decide +kernel
theorem dX6_sense_37 : decode cX6_sense 37 = .ok (.iadd, 1) := by decide +kernel
theorem dX6_sense_38 : decode cX6_sense 38 = .ok (.iaload, 1) := by decide +kernel
theorem dX6_sense_39 : decode cX6_sense 39 = .ok (.istore 5, 2) := by decide +kernel
theorem dX6_sense_41 : decode cX6_sense 41 = .ok (.aload_n 0, 1) := by decide +kernel
theorem dX6_sense_42 : decode cX6_sense 42 = .ok (.getfield 21, 3) := by decide +kernel
theorem dX6_sense_45 : decode cX6_sense 45 = .ok (.iload_n 3, 1) := by decide +kernel
theorem dX6_sense_46 : decode cX6_sense 46 = .ok (.dup2, 1) := by decide +kernel
theorem dX6_sense_47 : decode cX6_sense 47 = .ok (.iaload, 1) := by decide +kernel
theorem dX6_sense_48 : decode cX6_sense 48 = .ok (.iload 5, 2) := by decide +kernel
theorem dX6_sense_50 : decode cX6_sense 50 = .ok (.aload_n 0, 1) := by decide +kernel
theorem dX6_sense_51 : decode cX6_sense 51 = .ok (.getfield 15, 3) := by decide +kernel
theorem dX6_sense_54 : decode cX6_sense 54 = .ok (.iload 4, 2) := by decide +kernel
theorem dX6_sense_56 : decode cX6_sense 56 = .ok (.iaload, 1) := by decide +kernel
theorem dX6_sense_57 : decode cX6_sense 57 = .ok (.imul, 1) := by decide +kernel
theorem dX6_sense_58 : decode cX6_sense 58 = .ok (.iadd, 1) := by decide +kernel
theorem dX6_sense_59 : decode cX6_sense 59 = .ok (.iastore, 1) := by decide +kernel
theorem dX6_sense_60 : decode cX6_sense 60 = .ok (.iconst 0, 1) := by decide +kernel
theorem dX6_sense_61 : decode cX6_sense 61 = .ok (.istore 6, 2) := by decide +kernel
theorem dX6_sense_63 : decode cX6_sense 63 = .ok (.iload 6, 2) := by decide +kernel
theorem dX6_sense_65 : decode cX6_sense 65 = .ok (.bipush 21, 2) := by decide +kernel
theorem dX6_sense_67 : decode cX6_sense 67 = .ok (.if_icmp .ge 42, 3) := by decide +kernel
theorem dX6_sense_70 : decode cX6_sense 70 = .ok (.aload_n 0, 1) := by decide +kernel
theorem dX6_sense_71 : decode cX6_sense 71 = .ok (.getfield 24, 3) := by decide +kernel
theorem dX6_sense_74 : decode cX6_sense 74 = .ok (.iload 4, 2) := by decide +kernel
theorem dX6_sense_76 : decode cX6_sense 76 = .ok (.iload 6, 2) := by decide +kernel
theorem dX6_sense_78 : decode cX6_sense 78 = .ok (.invokestatic 55, 3) := by decide +kernel
theorem dX6_sense_81 : decode cX6_sense 81 = .ok (.iload_n 3, 1) := by decide +kernel
theorem dX6_sense_82 : decode cX6_sense 82 = .ok (.iadd, 1) := by decide +kernel
theorem dX6_sense_83 : decode cX6_sense 83 = .ok (.iload 5, 2) := by decide +kernel
theorem dX6_sense_85 : decode cX6_sense 85 = .ok (.aload_n 0, 1) := by decide +kernel
theorem dX6_sense_86 : decode cX6_sense 86 = .ok (.getfield 9, 3) := by decide +kernel
theorem dX6_sense_89 : decode cX6_sense 89 = .ok (.iload 4, 2) := by decide +kernel
theorem dX6_sense_91 : decode cX6_sense 91 = .ok (.iaload, 1) := by decide +kernel
theorem dX6_sense_92 : decode cX6_sense 92 = .ok (.iload 6, 2) := by decide +kernel
theorem dX6_sense_94 : decode cX6_sense 94 = .ok (.imul, 1) := by decide +kernel
theorem dX6_sense_95 : decode cX6_sense 95 = .ok (.bipush 10, 2) := by decide +kernel
theorem dX6_sense_97 : decode cX6_sense 97 = .ok (.imul, 1) := by decide +kernel
theorem dX6_sense_98 : decode cX6_sense 98 = .ok (.bipush 100, 2) := by decide +kernel
theorem dX6_sense_100 : decode cX6_sense 100 = .ok (.idiv, 1) := by decide +kernel
theorem dX6_sense_101 : decode cX6_sense 101 = .ok (.imul, 1) := by decide +kernel
theorem dX6_sense_102 : decode cX6_sense 102 = .ok (.iastore, 1) := by decide +kernel
theorem dX6_sense_103 : decode cX6_sense 103 = .ok (.iinc 6 1, 3) := by decide +kernel
theorem dX6_sense_106 : decode cX6_sense 106 = .ok (.goto (-43), 3) := by decide +kernel
theorem dX6_sense_109 : decode cX6_sense 109 = .ok (.iinc 4 1, 3) := by decide +kernel
theorem dX6_sense_112 : decode cX6_sense 112 = .ok (.goto (-95), 3) := by decide +kernel
theorem dX6_sense_115 : decode cX6_sense 115 = .ok (.iinc 3 1, 3) := by decide +kernel
theorem dX6_sense_118 : decode cX6_sense 118 = .ok (.goto (-116), 3) := by decide +kernel
theorem dX6_sense_121 : decode cX6_sense 121 = .ok (.return_, 1) := by decide +kernel
theorem dX6_weigh_0 : decode cX6_weigh 0 = .ok (.iconst 0, 1) := by decide +kernel
theorem dX6_weigh_1 : decode cX6_weigh 1 = .ok (.iload_n 1, 1) := by decide +kernel
theorem dX6_weigh_2 : decode cX6_weigh 2 = .ok (.invokestatic 55, 3) := by decide +kernel
theorem dX6_weigh_5 : decode cX6_weigh 5 = .ok (.istore 4, 2) := by decide +kernel
theorem dX6_weigh_7 : decode cX6_weigh 7 = .ok (.iconst 1, 1) := by decide +kernel
theorem dX6_weigh_8 : decode cX6_weigh 8 = .ok (.iload_n 2, 1) := by decide +kernel
theorem dX6_weigh_9 : decode cX6_weigh 9 = .ok (.invokestatic 55, 3) := by decide +kernel
theorem dX6_weigh_12 : decode cX6_weigh 12 = .ok (.istore 5, 2) := by decide +kernel
theorem dX6_weigh_14 : decode cX6_weigh 14 = .ok (.iconst 2, 1) := by decide +kernel
theorem dX6_weigh_15 : decode cX6_weigh 15 = .ok (.iload_n 3, 1) := by decide +kernel
theorem dX6_weigh_16 : decode cX6_weigh 16 = .ok (.invokestatic 55, 3) := by decide +kernel
theorem dX6_weigh_19 : decode cX6_weigh 19 = .ok (.istore 6, 2) := by decide +kernel
theorem dX6_weigh_21 : decode cX6_weigh 21 = .ok (.iconst 0, 1) := by decide +kernel
theorem dX6_weigh_22 : decode cX6_weigh 22 = .ok (.istore 7, 2) := by decide +kernel
theorem dX6_weigh_24 : decode cX6_weigh 24 = .ok (.iconst 0, 1) := by decide +kernel
theorem dX6_weigh_25 : decode cX6_weigh 25 = .ok (.istore 8, 2) := by decide +kernel
theorem dX6_weigh_27 : decode cX6_weigh 27 = .ok (.iload 8, 2) := by decide +kernel
theorem dX6_weigh_29 : decode cX6_weigh 29 = .ok (.iconst 3, 1) := by decide +kernel
theorem dX6_weigh_30 : decode cX6_weigh 30 = .ok (.if_icmp .ge 63, 3) := by decide +kernel
theorem dX6_weigh_33 : decode cX6_weigh 33 = .ok (.aload_n 0, 1) := by decide +kernel
theorem dX6_weigh_34 : decode cX6_weigh 34 = .ok (.getfield 24, 3) := by decide +kernel
theorem dX6_weigh_37 : decode cX6_weigh 37 = .ok (.iload 4, 2) := by decide +kernel
theorem dX6_weigh_39 : decode cX6_weigh 39 = .ok (.iload 8, 2) := by decide +kernel
theorem dX6_weigh_41 : decode cX6_weigh 41 = .ok (.iadd, 1) := by decide +kernel
theorem dX6_weigh_42 : decode cX6_weigh 42 = .ok (.iaload, 1) := by decide +kernel
theorem dX6_weigh_43 : decode cX6_weigh 43 = .ok (.aload_n 0, 1) := by decide +kernel
theorem dX6_weigh_44 : decode cX6_weigh 44 = .ok (.getfield 24, 3) := by decide +kernel
theorem dX6_weigh_47 : decode cX6_weigh 47 = .ok (.iload 5, 2) := by decide +kernel
theorem dX6_weigh_49 : decode cX6_weigh 49 = .ok (.iload 8, 2) := by decide +kernel
theorem dX6_weigh_51 : decode cX6_weigh 51 = .ok (.iadd, 1) := by decide +kernel
theorem dX6_weigh_52 : decode cX6_weigh 52 = .ok (.iaload, 1) := by decide +kernel
theorem dX6_weigh_53 : decode cX6_weigh 53 = .ok (.iadd, 1) := by decide +kernel
theorem dX6_weigh_54 : decode cX6_weigh 54 = .ok (.aload_n 0, 1) := by decide +kernel
theorem dX6_weigh_55 : decode cX6_weigh 55 = .ok (.getfield 24, 3) := by decide +kernel
theorem dX6_weigh_58 : decode cX6_weigh 58 = .ok (.iload 6, 2) := by decide +kernel
theorem dX6_weigh_60 : decode cX6_weigh 60 = .ok (.iload 8, 2) := by decide +kernel
theorem dX6_weigh_62 : decode cX6_weigh 62 = .ok (.iadd, 1) := by decide +kernel
theorem dX6_weigh_63 : decode cX6_weigh 63 = .ok (.iaload, 1) := by decide +kernel
theorem dX6_weigh_64 : decode cX6_weigh 64 = .ok (.iadd, 1) := by decide +kernel
theorem dX6_weigh_65 : decode cX6_weigh 65 = .ok (.istore 9, 2) := by decide +kernel
theorem dX6_weigh_67 : decode cX6_weigh 67 = .ok (.iload 7, 2) := by decide +kernel
theorem dX6_weigh_69 : decode cX6_weigh 69 = .ok (.iload 9, 2) := by decide +kernel
theorem dX6_weigh_71 : decode cX6_weigh 71 = .ok (.aload_n 0, 1) := by decide +kernel
theorem dX6_weigh_72 : decode cX6_weigh 72 = .ok (.getfield 21, 3) := by decide +kernel
theorem dX6_weigh_75 : decode cX6_weigh 75 = .ok (.iload 8, 2) := by decide +kernel
theorem dX6_weigh_77 : decode cX6_weigh 77 = .ok (.iaload, 1) := by decide +kernel
theorem dX6_weigh_78 : decode cX6_weigh 78 = .ok (.isub, 1) := by decide +kernel
theorem dX6_weigh_79 : decode cX6_weigh 79 = .ok (.invokestatic 59, 3) := by decide +kernel
theorem dX6_weigh_82 : decode cX6_weigh 82 = .ok (.invokestatic 65, 3) := by decide +kernel
theorem dX6_weigh_85 : decode cX6_weigh 85 = .ok (.istore 7, 2) := by decide +kernel
theorem dX6_weigh_87 : decode cX6_weigh 87 = .ok (.iinc 8 1, 3) := by decide +kernel
theorem dX6_weigh_90 : decode cX6_weigh 90 = .ok (.goto (-63), 3) := by decide +kernel
theorem dX6_weigh_93 : decode cX6_weigh 93 = .ok (.iload_n 1, 1) := by decide +kernel
theorem dX6_weigh_94 : decode cX6_weigh 94 = .ok (.iload_n 2, 1) := by decide +kernel
theorem dX6_weigh_95 : decode cX6_weigh 95 = .ok (.iadd, 1) := by decide +kernel
theorem dX6_weigh_96 : decode cX6_weigh 96 = .ok (.iload_n 3, 1) := by decide +kernel
theorem dX6_weigh_97 : decode cX6_weigh 97 = .ok (.iadd, 1) := by decide +kernel
theorem dX6_weigh_98 : decode cX6_weigh 98 = .ok (.istore 8, 2) := by decide +kernel
theorem dX6_weigh_100 : decode cX6_weigh 100 = .ok (.iload 7, 2) := by decide +kernel
theorem dX6_weigh_102 : decode cX6_weigh 102 = .ok (.aload_n 0, 1) := by decide +kernel
theorem dX6_weigh_103 : decode cX6_weigh 103 = .ok (.getfield 32, 3) := by decide +kernel
theorem dX6_weigh_106 : decode cX6_weigh 106 = .ok (.if_icmp .lt 21, 3) := by decide +kernel
theorem dX6_weigh_109 : decode cX6_weigh 109 = .ok (.iload 7, 2) := by decide +kernel
theorem dX6_weigh_111 : decode cX6_weigh 111 = .ok (.aload_n 0, 1) := by decide +kernel
theorem dX6_weigh_112 : decode cX6_weigh 112 = .ok (.getfield 32, 3) := by decide +kernel
theorem dX6_weigh_115 : decode cX6_weigh 115 = .ok (.if_icmp .ne 54, 3) := by decide +kernel
theorem dX6_weigh_118 : decode cX6_weigh 118 = .ok (.iload 8, 2) := by decide +kernel
theorem dX6_weigh_120 : decode cX6_weigh 120 = .ok (.aload_n 0, 1) := by decide +kernel
theorem dX6_weigh_121 : decode cX6_weigh 121 = .ok (.getfield 36, 3) := by decide +kernel
theorem dX6_weigh_124 : decode cX6_weigh 124 = .ok (.if_icmp .ge 45, 3) := by decide +kernel
theorem dX6_weigh_127 : decode cX6_weigh 127 = .ok (.aload_n 0, 1) := by decide +kernel
theorem dX6_weigh_128 : decode cX6_weigh 128 = .ok (.iload 7, 2) := by decide +kernel
theorem dX6_weigh_130 : decode cX6_weigh 130 = .ok (.putfield 32, 3) := by decide +kernel
theorem dX6_weigh_133 : decode cX6_weigh 133 = .ok (.aload_n 0, 1) := by decide +kernel
theorem dX6_weigh_134 : decode cX6_weigh 134 = .ok (.iload 8, 2) := by decide +kernel
theorem dX6_weigh_136 : decode cX6_weigh 136 = .ok (.putfield 36, 3) := by decide +kernel
theorem dX6_weigh_139 : decode cX6_weigh 139 = .ok (.aload_n 0, 1) := by decide +kernel
theorem dX6_weigh_140 : decode cX6_weigh 140 = .ok (.getfield 18, 3) := by decide +kernel
theorem dX6_weigh_143 : decode cX6_weigh 143 = .ok (.iconst 0, 1) := by decide +kernel
theorem dX6_weigh_144 : decode cX6_weigh 144 = .ok (.iload_n 1, 1) := by decide +kernel
theorem dX6_weigh_145 : decode cX6_weigh 145 = .ok (.bipush 10, 2) := by decide +kernel
theorem dX6_weigh_147 : decode cX6_weigh 147 = .ok (.imul, 1) := by decide +kernel
theorem dX6_weigh_148 : decode cX6_weigh 148 = .ok (.iastore, 1) := by decide +kernel
theorem dX6_weigh_149 : decode cX6_weigh 149 = .ok (.aload_n 0, 1) := by decide +kernel
theorem dX6_weigh_150 : decode cX6_weigh 150 = .ok (.getfield 18, 3) := by decide +kernel
theorem dX6_weigh_153 : decode cX6_weigh 153 = .ok (.iconst 1, 1) := by decide +kernel
theorem dX6_weigh_154 : decode cX6_weigh 154 = .ok (.iload_n 2, 1) := by decide +kernel
theorem dX6_weigh_155 : decode cX6_weigh 155 = .ok (.bipush 10, 2) := by decide +kernel
theorem dX6_weigh_157 : decode cX6_weigh 157 = .ok (.imul, 1) := by decide +kernel
theorem dX6_weigh_158 : decode cX6_weigh 158 = .ok (.iastore, 1) := by decide +kernel
theorem dX6_weigh_159 : decode cX6_weigh 159 = .ok (.aload_n 0, 1) := by decide +kernel
theorem dX6_weigh_160 : decode cX6_weigh 160 = .ok (.getfield 18, 3) := by decide +kernel
theorem dX6_weigh_163 : decode cX6_weigh 163 = .ok (.iconst 2, 1) := by decide +kernel
theorem dX6_weigh_164 : decode cX6_weigh 164 = .ok (.iload_n 3, 1) := by decide +kernel
theorem dX6_weigh_165 : decode cX6_weigh 165 = .ok (.bipush 10, 2) := by decide +kernel
theorem dX6_weigh_167 : decode cX6_weigh 167 = .ok (.imul, 1) := by decide +kernel
theorem dX6_weigh_168 : decode cX6_weigh 168 = .ok (.iastore, 1) := by decide +kernel
theorem dX6_weigh_169 : decode cX6_weigh 169 = .ok (.return_, 1) := by decide +kernel
theorem dX6_search_0 : decode cX6_search 0 = .ok (.aload_n 0, 1) := by decide +kernel
theorem dX6_search_1 : decode cX6_search 1 = .ok (.aload_n 1, 1) := by decide +kernel
theorem dX6_search_2 : decode cX6_search 2 = .ok (.iload_n 2, 1) := by decide +kernel
theorem dX6_search_3 : decode cX6_search 3 = .ok (.invokevirtual 27, 3) := by decide +kernel
theorem dX6_search_6 : decode cX6_search 6 = .ok (.aload_n 0, 1) := by decide +kernel
theorem dX6_search_7 : decode cX6_search 7 = .ok (.ldc 31, 2) := by decide +kernel
theorem dX6_search_9 : decode cX6_search 9 = .ok (.putfield 32, 3) := by decide +kernel
theorem dX6_search_12 : decode cX6_search 12 = .ok (.aload_n 0, 1) := by decide +kernel
theorem dX6_search_13 : decode cX6_search 13 = .ok (.ldc 31, 2) := by decide +kernel
theorem dX6_search_15 : decode cX6_search 15 = .ok (.putfield 36, 3) := by decide +kernel
theorem dX6_search_18 : decode cX6_search 18 = .ok (.aload_n 1, 1) := by decide +kernel
theorem dX6_search_19 : decode cX6_search 19 = .ok (.getfield 39, 3) := by decide +kernel
theorem dX6_search_22 : decode cX6_search 22 = .ok (.iconst 0, 1) := by decide +kernel
theorem dX6_search_23 : decode cX6_search 23 = .ok (.iaload, 1) := by decide +kernel
theorem dX6_search_24 : decode cX6_search 24 = .ok (.bipush 10, 2) := by decide +kernel
theorem dX6_search_26 : decode cX6_search 26 = .ok (.idiv, 1) := by decide +kernel
theorem dX6_search_27 : decode cX6_search 27 = .ok (.istore_n 3, 1) := by decide +kernel
theorem dX6_search_28 : decode cX6_search 28 = .ok (.aload_n 1, 1) := by decide +kernel
theorem dX6_search_29 : decode cX6_search 29 = .ok (.getfield 39, 3) := by decide +kernel
theorem dX6_search_32 : decode cX6_search 32 = .ok (.iconst 1, 1) := by decide +kernel
theorem dX6_search_33 : decode cX6_search 33 = .ok (.iaload, 1) := by decide +kernel
theorem dX6_search_34 : decode cX6_search 34 = .ok (.bipush 10, 2) := by decide +kernel
theorem dX6_search_36 : decode cX6_search 36 = .ok (.idiv, 1) := by decide +kernel
theorem dX6_search_37 : decode cX6_search 37 = .ok (.istore 4, 2) := by decide +kernel
theorem dX6_search_39 : decode cX6_search 39 = .ok (.aload_n 1, 1) := by decide +kernel
theorem dX6_search_40 : decode cX6_search 40 = .ok (.getfield 39, 3) := by decide +kernel
theorem dX6_search_43 : decode cX6_search 43 = .ok (.iconst 2, 1) := by decide +kernel
theorem dX6_search_44 : decode cX6_search 44 = .ok (.iaload, 1) := by decide +kernel
theorem dX6_search_45 : decode cX6_search 45 = .ok (.bipush 10, 2) := by decide +kernel
theorem dX6_search_47 : decode cX6_search 47 = .ok (.idiv, 1) := by decide +kernel
theorem dX6_search_48 : decode cX6_search 48 = .ok (.istore 5, 2) := by decide +kernel
theorem dX6_search_50 : decode cX6_search 50 = .ok (.iconst 0, 1) := by decide +kernel
theorem dX6_search_51 : decode cX6_search 51 = .ok (.istore 6, 2) := by decide +kernel
theorem dX6_search_53 : decode cX6_search 53 = .ok (.iload 6, 2) := by decide +kernel
theorem dX6_search_55 : decode cX6_search 55 = .ok (.iload_n 3, 1) := by decide +kernel
theorem dX6_search_56 : decode cX6_search 56 = .ok (.if_icmp .gt 85, 3) := by decide +kernel
theorem dX6_search_59 : decode cX6_search 59 = .ok (.iload 6, 2) := by decide +kernel
theorem dX6_search_61 : decode cX6_search 61 = .ok (.bipush 21, 2) := by decide +kernel
theorem dX6_search_63 : decode cX6_search 63 = .ok (.if_icmp .ge 78, 3) := by decide +kernel
theorem dX6_search_66 : decode cX6_search 66 = .ok (.iconst 0, 1) := by decide +kernel
theorem dX6_search_67 : decode cX6_search 67 = .ok (.istore 7, 2) := by decide +kernel
theorem dX6_search_69 : decode cX6_search 69 = .ok (.iload 7, 2) := by decide +kernel
theorem dX6_search_71 : decode cX6_search 71 = .ok (.iload 4, 2) := by decide +kernel
theorem dX6_search_73 : decode cX6_search 73 = .ok (.if_icmp .gt 62, 3) := by decide +kernel
theorem dX6_search_76 : decode cX6_search 76 = .ok (.iload 7, 2) := by decide +kernel
theorem dX6_search_78 : decode cX6_search 78 = .ok (.bipush 21, 2) := by decide +kernel
theorem dX6_search_80 : decode cX6_search 80 = .ok (.if_icmp .ge 55, 3) := by decide +kernel
theorem dX6_search_83 : decode cX6_search 83 = .ok (.aload_n 0, 1) := by decide +kernel
theorem dX6_search_84 : decode cX6_search 84 = .ok (.iload 6, 2) := by decide +kernel
theorem dX6_search_86 : decode cX6_search 86 = .ok (.iload 7, 2) := by decide +kernel
theorem dX6_search_88 : decode cX6_search 88 = .ok (.iload 5, 2) := by decide +kernel
theorem dX6_search_90 : decode cX6_search 90 = .ok (.invokevirtual 44, 3) := by decide +kernel
theorem dX6_search_93 : decode cX6_search 93 = .ok (.ifCond .eq 36, 3) := by decide +kernel
theorem dX6_search_96 : decode cX6_search 96 = .ok (.iconst 0, 1) := by decide +kernel
theorem dX6_search_97 : decode cX6_search 97 = .ok (.istore 8, 2) := by decide +kernel
theorem dX6_search_99 : decode cX6_search 99 = .ok (.iload 8, 2) := by decide +kernel
theorem dX6_search_101 : decode cX6_search 101 = .ok (.iload 5, 2) := by decide +kernel
theorem dX6_search_103 : decode cX6_search 103 = .ok (.if_icmp .gt 26, 3) := by decide +kernel
theorem dX6_search_106 : decode cX6_search 106 = .ok (.iload 8, 2) := by decide +kernel
theorem dX6_search_108 : decode cX6_search 108 = .ok (.bipush 21, 2) := by decide +kernel
theorem dX6_search_110 : decode cX6_search 110 = .ok (.if_icmp .ge 19, 3) := by decide +kernel
theorem dX6_search_113 : decode cX6_search 113 = .ok (.aload_n 0, 1) := by decide +kernel
theorem dX6_search_114 : decode cX6_search 114 = .ok (.iload 6, 2) := by decide +kernel
theorem dX6_search_116 : decode cX6_search 116 = .ok (.iload 7, 2) := by decide +kernel
theorem dX6_search_118 : decode cX6_search 118 = .ok (.iload 8, 2) := by decide +kernel
theorem dX6_search_120 : decode cX6_search 120 = .ok (.invokevirtual 48, 3) := by decide +kernel
theorem dX6_search_123 : decode cX6_search 123 = .ok (.iinc 8 1, 3) := by decide +kernel
theorem dX6_search_126 : decode cX6_search 126 = .ok (.goto (-27), 3) := by decide +kernel
theorem dX6_search_129 : decode cX6_search 129 = .ok (.iinc 7 1, 3) := by decide +kernel
theorem dX6_search_132 : decode cX6_search 132 = .ok (.goto (-63), 3) := by decide +kernel
theorem dX6_search_135 : decode cX6_search 135 = .ok (.iinc 6 1, 3) := by decide +kernel
theorem dX6_search_138 : decode cX6_search 138 = .ok (.goto (-85), 3) := by decide +kernel
theorem dX6_search_141 : decode cX6_search 141 = .ok (.return_, 1) := by decide +kernel
theorem dX10_throwLight_0 : decode cX10_throwLight 0 = .ok (.aload_n 0, 1) := by decide +kernel
theorem dX10_throwLight_1 : decode cX10_throwLight 1 = .ok (.getfield 57, 3) := by decide +kernel
theorem dX10_throwLight_4 : decode cX10_throwLight 4 = .ok (.iload_n 1, 1) := by decide +kernel
theorem dX10_throwLight_5 : decode cX10_throwLight 5 = .ok (.iload 4, 2) := by decide +kernel
theorem dX10_throwLight_7 : decode cX10_throwLight 7 = .ok (.sipush 999, 3) := by decide +kernel
theorem dX10_throwLight_10 : decode cX10_throwLight 10 = .ok (.invokevirtual 241, 3) := by decide +kernel
theorem dX10_throwLight_13 : decode cX10_throwLight 13 = .ok (.aload_n 0, 1) := by decide +kernel
theorem dX10_throwLight_14 : decode cX10_throwLight 14 = .ok (.getfield 57, 3) := by decide +kernel
theorem dX10_throwLight_17 : decode cX10_throwLight 17 = .ok (.invokevirtual 258, 3) := by decide +kernel
theorem dX10_throwLight_20 : decode cX10_throwLight 20 = .ok (.iconst 0, 1) := by decide +kernel
theorem dX10_throwLight_21 : decode cX10_throwLight 21 = .ok (.istore 6, 2) := by decide +kernel
theorem dX10_throwLight_23 : decode cX10_throwLight 23 = .ok (.iload 6, 2) := by decide +kernel
theorem dX10_throwLight_25 : decode cX10_throwLight 25 = .ok (.iconst 3, 1) := by decide +kernel
theorem dX10_throwLight_26 : decode cX10_throwLight 26 = .ok (.if_icmp .ge 50, 3) := by decide +kernel
theorem dX10_throwLight_29 : decode cX10_throwLight 29 = .ok (.aload_n 0, 1) := by decide +kernel
theorem dX10_throwLight_30 : decode cX10_throwLight 30 = .ok (.getfield 74, 3) := by decide +kernel
theorem dX10_throwLight_33 : decode cX10_throwLight 33 = .ok (.getfield 372, 3) := by decide +kernel
theorem dX10_throwLight_36 : decode cX10_throwLight 36 = .ok (.iload 6, 2) := by decide +kernel
theorem dX10_throwLight_38 : decode cX10_throwLight 38 = .ok (.aload_n 0, 1) := by decide +kernel
theorem dX10_throwLight_39 : decode cX10_throwLight 39 = .ok (.getfield 44, 3) := by decide +kernel
theorem dX10_throwLight_42 : decode cX10_throwLight 42 = .ok (.iload_n 2, 1) := by decide +kernel
theorem dX10_throwLight_43 : decode cX10_throwLight 43 = .ok (.iload 6, 2) := by decide +kernel
theorem dX10_throwLight_45 : decode cX10_throwLight 45 = .ok (.invokevirtual 231, 3) := by decide +kernel
theorem dX10_throwLight_48 : decode cX10_throwLight 48 = .ok (.iastore, 1) := by decide +kernel
theorem dX10_throwLight_49 : decode cX10_throwLight 49 = .ok (.aload_n 0, 1) := by decide +kernel
theorem dX10_throwLight_50 : decode cX10_throwLight 50 = .ok (.getfield 74, 3) := by decide +kernel
theorem dX10_throwLight_53 : decode cX10_throwLight 53 = .ok (.getfield 375, 3) := by decide +kernel
theorem dX10_throwLight_56 : decode cX10_throwLight 56 = .ok (.iload 6, 2) := by decide +kernel
theorem dX10_throwLight_58 : decode cX10_throwLight 58 = .ok (.aload_n 0, 1) := by decide +kernel
theorem dX10_throwLight_59 : decode cX10_throwLight 59 = .ok (.getfield 57, 3) := by decide +kernel
theorem dX10_throwLight_62 : decode cX10_throwLight 62 = .ok (.iload 5, 2) := by decide +kernel
theorem dX10_throwLight_64 : decode cX10_throwLight 64 = .ok (.iload 6, 2) := by decide +kernel
theorem dX10_throwLight_66 : decode cX10_throwLight 66 = .ok (.invokevirtual 267, 3) := by decide +kernel
theorem dX10_throwLight_69 : decode cX10_throwLight 69 = .ok (.iastore, 1) := by decide +kernel
theorem dX10_throwLight_70 : decode cX10_throwLight 70 = .ok (.iinc 6 1, 3) := by decide +kernel
theorem dX10_throwLight_73 : decode cX10_throwLight 73 = .ok (.goto (-50), 3) := by decide +kernel
theorem dX10_throwLight_76 : decode cX10_throwLight 76 = .ok (.aload_n 0, 1) := by decide +kernel
theorem dX10_throwLight_77 : decode cX10_throwLight 77 = .ok (.getfield 74, 3) := by decide +kernel
theorem dX10_throwLight_80 : decode cX10_throwLight 80 = .ok (.aload_n 0, 1) := by decide +kernel
theorem dX10_throwLight_81 : decode cX10_throwLight 81 = .ok (.getfield 24, 3) := by decide +kernel
theorem dX10_throwLight_84 : decode cX10_throwLight 84 = .ok (.getfield 110, 3) := by decide +kernel
theorem dX10_throwLight_87 : decode cX10_throwLight 87 = .ok (.iload_n 3, 1) := by decide +kernel
theorem dX10_throwLight_88 : decode cX10_throwLight 88 = .ok (.invokevirtual 378, 3) := by decide +kernel
theorem dX10_throwLight_91 : decode cX10_throwLight 91 = .ok (.return_, 1) := by decide +kernel
theorem dX10_cannot_0 : decode cX10_cannot 0 = .ok (.aload_n 0, 1) := by decide +kernel
theorem dX10_cannot_1 : decode cX10_cannot 1 = .ok (.iload_n 1, 1) := by decide +kernel
theorem dX10_cannot_2 : decode cX10_cannot 2 = .ok (.iload_n 2, 1) := by decide +kernel
theorem dX10_cannot_3 : decode cX10_cannot 3 = .ok (.iload_n 3, 1) := by decide +kernel
theorem dX10_cannot_4 : decode cX10_cannot 4 = .ok (.invokevirtual 322, 3) := by decide +kernel
theorem dX10_cannot_7 : decode cX10_cannot 7 = .ok (.ifCond .eq 15, 3) := by decide +kernel
theorem dX10_cannot_10 : decode cX10_cannot 10 = .ok (.iload 4, 2) := by decide +kernel
theorem dX10_cannot_12 : decode cX10_cannot 12 = .ok (.iconst 0, 1) := by decide +kernel
theorem dX10_cannot_13 : decode cX10_cannot 13 = .ok (.sipush 9999, 3) := by decide +kernel
theorem dX10_cannot_16 : decode cX10_cannot 16 = .ok (.invokestatic 133, 3) := by decide +kernel
theorem dX10_cannot_19 : decode cX10_cannot 19 = .ok (.ifCond .ne 6, 3) := by decide +kernel
theorem dX10_cannot_22 : decode cX10_cannot 22 = .ok (.bipush (-2), 2) := by decide +kernel
theorem dX10_cannot_24 : decode cX10_cannot 24 = .ok (.ireturn, 1) := by decide +kernel
theorem dX10_cannot_25 : decode cX10_cannot 25 = .ok (.iconst 0, 1) := by decide +kernel
theorem dX10_cannot_26 : decode cX10_cannot 26 = .ok (.istore 5, 2) := by decide +kernel
theorem dX10_cannot_28 : decode cX10_cannot 28 = .ok (.iconst 0, 1) := by decide +kernel
theorem dX10_cannot_29 : decode cX10_cannot 29 = .ok (.istore 6, 2) := by decide +kernel
theorem dX10_cannot_31 : decode cX10_cannot 31 = .ok (.iload 6, 2) := by decide +kernel
theorem dX10_cannot_33 : decode cX10_cannot 33 = .ok (.aload_n 0, 1) := by decide +kernel
theorem dX10_cannot_34 : decode cX10_cannot 34 = .ok (.getfield 24, 3) := by decide +kernel
theorem dX10_cannot_37 : decode cX10_cannot 37 = .ok (.getfield 110, 3) := by decide +kernel
theorem dX10_cannot_40 : decode cX10_cannot 40 = .ok (.invokevirtual 296, 3) := by decide +kernel
theorem dX10_cannot_43 : decode cX10_cannot 43 = .ok (.if_icmp .ge 69, 3) := by decide +kernel
theorem dX10_cannot_46 : decode cX10_cannot 46 = .ok (.aload_n 0, 1) := by decide +kernel
theorem dX10_cannot_47 : decode cX10_cannot 47 = .ok (.getfield 44, 3) := by decide +kernel
theorem dX10_cannot_50 : decode cX10_cannot 50 = .ok (.iload 6, 2) := by decide +kernel
theorem dX10_cannot_52 : decode cX10_cannot 52 = .ok (.iconst 0, 1) := by decide +kernel
theorem dX10_cannot_53 : decode cX10_cannot 53 = .ok (.sipush 999, 3) := by decide +kernel
theorem dX10_cannot_56 : decode cX10_cannot 56 = .ok (.invokevirtual 228, 3) := by decide +kernel
theorem dX10_cannot_59 : decode cX10_cannot 59 = .ok (.istore 7, 2) := by decide +kernel
theorem dX10_cannot_61 : decode cX10_cannot 61 = .ok (.aload_n 0, 1) := by decide +kernel
theorem dX10_cannot_62 : decode cX10_cannot 62 = .ok (.getfield 44, 3) := by decide +kernel
theorem dX10_cannot_65 : decode cX10_cannot 65 = .ok (.iload 7, 2) := by decide +kernel
theorem dX10_cannot_67 : decode cX10_cannot 67 = .ok (.invokevirtual 273, 3) := by decide +kernel
theorem dX10_cannot_70 : decode cX10_cannot 70 = .ok (.ifCond .eq 36, 3) := by decide +kernel
theorem dX10_cannot_73 : decode cX10_cannot 73 = .ok (.aload_n 0, 1) := by decide +kernel
theorem dX10_cannot_74 : decode cX10_cannot 74 = .ok (.iload 6, 2) := by decide +kernel
theorem dX10_cannot_76 : decode cX10_cannot 76 = .ok (.iload 7, 2) := by decide +kernel
theorem dX10_cannot_78 : decode cX10_cannot 78 = .ok (.iload_n 1, 1) := by decide +kernel
theorem dX10_cannot_79 : decode cX10_cannot 79 = .ok (.iload_n 2, 1) := by decide +kernel
theorem dX10_cannot_80 : decode cX10_cannot 80 = .ok (.iload_n 3, 1) := by decide +kernel
theorem dX10_cannot_81 : decode cX10_cannot 81 = .ok (.invokevirtual 325, 3) := by decide +kernel
theorem dX10_cannot_84 : decode cX10_cannot 84 = .ok (.iload 5, 2) := by decide +kernel
theorem dX10_cannot_86 : decode cX10_cannot 86 = .ok (.aload_n 0, 1) := by decide +kernel
theorem dX10_cannot_87 : decode cX10_cannot 87 = .ok (.getfield 74, 3) := by decide +kernel
theorem dX10_cannot_90 : decode cX10_cannot 90 = .ok (.getfield 328, 3) := by decide +kernel
theorem dX10_cannot_93 : decode cX10_cannot 93 = .ok (.iload 4, 2) := by decide +kernel
theorem dX10_cannot_95 : decode cX10_cannot 95 = .ok (.if_icmp .le 7, 3) := by decide +kernel
theorem dX10_cannot_98 : decode cX10_cannot 98 = .ok (.iconst 1, 1) := by decide +kernel
theorem dX10_cannot_99 : decode cX10_cannot 99 = .ok (.goto 4, 3) := by decide +kernel
theorem dX10_cannot_102 : decode cX10_cannot 102 = .ok (.iconst 0, 1) := by decide +kernel
theorem dX10_cannot_103 : decode cX10_cannot 103 = .ok (.iadd, 1) := by decide +kernel
theorem dX10_cannot_104 : decode cX10_cannot 104 = .ok (.istore 5, 2) := by decide +kernel
theorem dX10_cannot_106 : decode cX10_cannot 106 = .ok (.iinc 6 1, 3) := by decide +kernel
theorem dX10_cannot_109 : decode cX10_cannot 109 = .ok (.goto (-78), 3) := by decide +kernel
theorem dX10_cannot_112 : decode cX10_cannot 112 = .ok (.iload 5, 2) := by decide +kernel
theorem dX10_cannot_114 : decode cX10_cannot 114 = .ok (.ireturn, 1) := by decide +kernel
theorem dX1_clear_0 : decode cX1_clear 0 = .ok (.aload_n 0, 1) := by decide +kernel
theorem dX1_clear_1 : decode cX1_clear 1 = .ok (.iconst 4, 1) := by decide +kernel
theorem dX1_clear_2 : decode cX1_clear 2 = .ok (.putfield 43, 3) := by decide +kernel
theorem dX1_clear_5 : decode cX1_clear 5 = .ok (.aload_n 0, 1) := by decide +kernel
theorem dX1_clear_6 : decode cX1_clear 6 = .ok (.iconst 3, 1) := by decide +kernel
theorem dX1_clear_7 : decode cX1_clear 7 = .ok (.putfield 47, 3) := by decide +kernel
theorem dX1_clear_10 : decode cX1_clear 10 = .ok (.aload_n 0, 1) := by decide +kernel
theorem dX1_clear_11 : decode cX1_clear 11 = .ok (.iconst 0, 1) := by decide +kernel
theorem dX1_clear_12 : decode cX1_clear 12 = .ok (.putfield 50, 3) := by decide +kernel
theorem dX1_clear_15 : decode cX1_clear 15 = .ok (.aload_n 0, 1) := by decide +kernel
theorem dX1_clear_16 : decode cX1_clear 16 = .ok (.iconst 2, 1) := by decide +kernel
theorem dX1_clear_17 : decode cX1_clear 17 = .ok (.putfield 53, 3) := by decide +kernel
theorem dX1_clear_20 : decode cX1_clear 20 = .ok (.aload_n 0, 1) := by decide +kernel
theorem dX1_clear_21 : decode cX1_clear 21 = .ok (.iconst 0, 1) := by decide +kernel
theorem dX1_clear_22 : decode cX1_clear 22 = .ok (.putfield 56, 3) := by decide +kernel
theorem dX1_clear_25 : decode cX1_clear 25 = .ok (.aload_n 0, 1) := by decide +kernel
theorem dX1_clear_26 : decode cX1_clear 26 = .ok (.getfield 9, 3) := by decide +kernel
theorem dX1_clear_29 : decode cX1_clear 29 = .ok (.bipush 100, 2) := by decide +kernel
theorem dX1_clear_31 : decode cX1_clear 31 = .ok (.invokestatic 59, 3) := by decide +kernel
theorem dX1_clear_34 : decode cX1_clear 34 = .ok (.aload_n 0, 1) := by decide +kernel
theorem dX1_clear_35 : decode cX1_clear 35 = .ok (.iconst 0, 1) := by decide +kernel
theorem dX1_clear_36 : decode cX1_clear 36 = .ok (.putfield 65, 3) := by decide +kernel
theorem dX1_clear_39 : decode cX1_clear 39 = .ok (.aload_n 0, 1) := by decide +kernel
theorem dX1_clear_40 : decode cX1_clear 40 = .ok (.iconst 0, 1) := by decide +kernel
theorem dX1_clear_41 : decode cX1_clear 41 = .ok (.putfield 68, 3) := by decide +kernel
theorem dX1_clear_44 : decode cX1_clear 44 = .ok (.aload_n 0, 1) := by decide +kernel
theorem dX1_clear_45 : decode cX1_clear 45 = .ok (.iconst 0, 1) := by decide +kernel
theorem dX1_clear_46 : decode cX1_clear 46 = .ok (.putfield 71, 3) := by decide +kernel
theorem dX1_clear_49 : decode cX1_clear 49 = .ok (.aload_n 0, 1) := by decide +kernel
theorem dX1_clear_50 : decode cX1_clear 50 = .ok (.iconst 0, 1) := by decide +kernel
theorem dX1_clear_51 : decode cX1_clear 51 = .ok (.putfield 74, 3) := by decide +kernel
theorem dX1_clear_54 : decode cX1_clear 54 = .ok (.return_, 1) := by decide +kernel
theorem dX2_begin_0 : decode cX2_begin 0 = .ok (.aload_n 0, 1) := by decide +kernel
theorem dX2_begin_1 : decode cX2_begin 1 = .ok (.aload_n 1, 1) := by decide +kernel
theorem dX2_begin_2 : decode cX2_begin 2 = .ok (.putfield 22, 3) := by decide +kernel
theorem dX2_begin_5 : decode cX2_begin 5 = .ok (.aload_n 0, 1) := by decide +kernel
theorem dX2_begin_6 : decode cX2_begin 6 = .ok (.getfield 22, 3) := by decide +kernel
theorem dX2_begin_9 : decode cX2_begin 9 = .ok (.invokevirtual 26, 3) := by decide +kernel
theorem dX2_begin_12 : decode cX2_begin 12 = .ok (.aload_n 0, 1) := by decide +kernel
theorem dX2_begin_13 : decode cX2_begin 13 = .ok (.iconst 0, 1) := by decide +kernel
theorem dX2_begin_14 : decode cX2_begin 14 = .ok (.putfield 31, 3) := by decide +kernel
theorem dX2_begin_17 : decode cX2_begin 17 = .ok (.aload_n 0, 1) := by decide +kernel
theorem dX2_begin_18 : decode cX2_begin 18 = .ok (.iconst 0, 1) := by decide +kernel
theorem dX2_begin_19 : decode cX2_begin 19 = .ok (.putfield 34, 3) := by decide +kernel
theorem dX2_begin_22 : decode cX2_begin 22 = .ok (.aload_n 0, 1) := by decide +kernel
theorem dX2_begin_23 : decode cX2_begin 23 = .ok (.iconst 0, 1) := by decide +kernel
theorem dX2_begin_24 : decode cX2_begin 24 = .ok (.putfield 9, 3) := by decide +kernel
theorem dX2_begin_27 : decode cX2_begin 27 = .ok (.aload_n 0, 1) := by decide +kernel
theorem dX2_begin_28 : decode cX2_begin 28 = .ok (.iconst (-1), 1) := by decide +kernel
theorem dX2_begin_29 : decode cX2_begin 29 = .ok (.putfield 15, 3) := by decide +kernel
theorem dX2_begin_32 : decode cX2_begin 32 = .ok (.return_, 1) := by decide +kernel
theorem dX2_isBlankByte_0 : decode cX2_isBlankByte 0 = .ok (.iload_n 0, 1) := by decide +kernel
theorem dX2_isBlankByte_1 : decode cX2_isBlankByte 1 = .ok (.bipush 32, 2) := by decide +kernel
theorem dX2_isBlankByte_3 : decode cX2_isBlankByte 3 = .ok (.if_icmp .eq 9, 3) := by decide +kernel
theorem dX2_isBlankByte_6 : decode cX2_isBlankByte 6 = .ok (.iload_n 0, 1) := by decide +kernel
theorem dX2_isBlankByte_7 : decode cX2_isBlankByte 7 = .ok (.bipush 10, 2) := by decide +kernel
theorem dX2_isBlankByte_9 : decode cX2_isBlankByte 9 = .ok (.if_icmp .ne 7, 3) := by decide +kernel
theorem dX2_isBlankByte_12 : decode cX2_isBlankByte 12 = .ok (.iconst 1, 1) := by decide +kernel
theorem dX2_isBlankByte_13 : decode cX2_isBlankByte 13 = .ok (.goto 4, 3) := by decide +kernel
theorem dX2_isBlankByte_16 : decode cX2_isBlankByte 16 = .ok (.iconst 0, 1) := by decide +kernel
theorem dX2_isBlankByte_17 : decode cX2_isBlankByte 17 = .ok (.ireturn, 1) := by decide +kernel
theorem dX2_isDigit_0 : decode cX2_isDigit 0 = .ok (.iload_n 0, 1) := by decide +kernel
theorem dX2_isDigit_1 : decode cX2_isDigit 1 = .ok (.bipush 48, 2) := by decide +kernel
theorem dX2_isDigit_3 : decode cX2_isDigit 3 = .ok (.if_icmp .lt 13, 3) := by decide +kernel
theorem dX2_isDigit_6 : decode cX2_isDigit 6 = .ok (.iload_n 0, 1) := by decide +kernel
theorem dX2_isDigit_7 : decode cX2_isDigit 7 = .ok (.bipush 57, 2) := by decide +kernel
theorem dX2_isDigit_9 : decode cX2_isDigit 9 = .ok (.if_icmp .gt 7, 3) := by decide +kernel
theorem dX2_isDigit_12 : decode cX2_isDigit 12 = .ok (.iconst 1, 1) := by decide +kernel
theorem dX2_isDigit_13 : decode cX2_isDigit 13 = .ok (.goto 4, 3) := by decide +kernel
theorem dX2_isDigit_16 : decode cX2_isDigit 16 = .ok (.iconst 0, 1) := by decide +kernel
theorem dX2_isDigit_17 : decode cX2_isDigit 17 = .ok (.ireturn, 1) := by decide +kernel
theorem dX2_isLetter_0 : decode cX2_isLetter 0 = .ok (.iload_n 0, 1) := by decide +kernel
theorem dX2_isLetter_1 : decode cX2_isLetter 1 = .ok (.bipush 97, 2) := by decide +kernel
theorem dX2_isLetter_3 : decode cX2_isLetter 3 = .ok (.if_icmp .lt 13, 3) := by decide +kernel
theorem dX2_isLetter_6 : decode cX2_isLetter 6 = .ok (.iload_n 0, 1) := by decide +kernel
theorem dX2_isLetter_7 : decode cX2_isLetter 7 = .ok (.bipush 122, 2) := by decide +kernel
theorem dX2_isLetter_9 : decode cX2_isLetter 9 = .ok (.if_icmp .gt 7, 3) := by decide +kernel
theorem dX2_isLetter_12 : decode cX2_isLetter 12 = .ok (.iconst 1, 1) := by decide +kernel
theorem dX2_isLetter_13 : decode cX2_isLetter 13 = .ok (.goto 4, 3) := by decide +kernel
theorem dX2_isLetter_16 : decode cX2_isLetter 16 = .ok (.iconst 0, 1) := by decide +kernel
theorem dX2_isLetter_17 : decode cX2_isLetter 17 = .ok (.ireturn, 1) := by decide +kernel
theorem dX2_advance_0 : decode cX2_advance 0 = .ok (.aload_n 0, 1) := by decide +kernel
theorem dX2_advance_1 : decode cX2_advance 1 = .ok (.getfield 18, 3) := by decide +kernel
theorem dX2_advance_4 : decode cX2_advance 4 = .ok (.getfield 46, 3) := by decide +kernel
theorem dX2_advance_7 : decode cX2_advance 7 = .ok (.astore_n 1, 1) := by decide +kernel
theorem dX2_advance_8 : decode cX2_advance 8 = .ok (.aload_n 0, 1) := by decide +kernel
theorem dX2_advance_9 : decode cX2_advance 9 = .ok (.getfield 18, 3) := by decide +kernel
theorem dX2_advance_12 : decode cX2_advance 12 = .ok (.getfield 52, 3) := by decide +kernel
theorem dX2_advance_15 : decode cX2_advance 15 = .ok (.istore_n 2, 1) := by decide +kernel
theorem dX2_advance_16 : decode cX2_advance 16 = .ok (.aload_n 0, 1) := by decide +kernel
theorem dX2_advance_17 : decode cX2_advance 17 = .ok (.getfield 31, 3) := by decide +kernel
theorem dX2_advance_20 : decode cX2_advance 20 = .ok (.iload_n 2, 1) := by decide +kernel
theorem dX2_advance_21 : decode cX2_advance 21 = .ok (.if_icmp .ge 28, 3) := by decide +kernel
theorem dX2_advance_24 : decode cX2_advance 24 = .ok (.aload_n 1, 1) := by decide +kernel
theorem dX2_advance_25 : decode cX2_advance 25 = .ok (.aload_n 0, 1) := by decide +kernel
theorem dX2_advance_26 : decode cX2_advance 26 = .ok (.getfield 31, 3) := by decide +kernel
theorem dX2_advance_29 : decode cX2_advance 29 = .ok (.baload, 1) := by decide +kernel
theorem dX2_advance_30 : decode cX2_advance 30 = .ok (.invokestatic 55, 3) := by decide +kernel
theorem dX2_advance_33 : decode cX2_advance 33 = .ok (.ifCond .eq 16, 3) := by decide +kernel
theorem dX2_advance_36 : decode cX2_advance 36 = .ok (.aload_n 0, 1) := by decide +kernel
theorem dX2_advance_37 : decode cX2_advance 37 = .ok (.dup, 1) := by decide +kernel
theorem dX2_advance_38 : decode cX2_advance 38 = .ok (.getfield 31, 3) := by decide +kernel
theorem dX2_advance_41 : decode cX2_advance 41 = .ok (.iconst 1, 1) := by decide +kernel
theorem dX2_advance_42 : decode cX2_advance 42 = .ok (.iadd, 1) := by decide +kernel
theorem dX2_advance_43 : decode cX2_advance 43 = .ok (.putfield 31, 3) := by decide +kernel
theorem dX2_advance_46 : decode cX2_advance 46 = .ok (.goto (-30), 3) := by decide +kernel
theorem dX2_advance_49 : decode cX2_advance 49 = .ok (.aload_n 0, 1) := by decide +kernel
theorem dX2_advance_50 : decode cX2_advance 50 = .ok (.aload_n 0, 1) := by decide +kernel
theorem dX2_advance_51 : decode cX2_advance 51 = .ok (.getfield 31, 3) := by decide +kernel
theorem dX2_advance_54 : decode cX2_advance 54 = .ok (.putfield 43, 3) := by decide +kernel
theorem dX2_advance_57 : decode cX2_advance 57 = .ok (.aload_n 0, 1) := by decide +kernel
theorem dX2_advance_58 : decode cX2_advance 58 = .ok (.getfield 31, 3) := by decide +kernel
theorem dX2_advance_61 : decode cX2_advance 61 = .ok (.iload_n 2, 1) := by decide +kernel
theorem dX2_advance_62 : decode cX2_advance 62 = .ok (.if_icmp .lt 11, 3) := by decide +kernel
theorem dX2_advance_65 : decode cX2_advance 65 = .ok (.aload_n 0, 1) := by decide +kernel
theorem dX2_advance_66 : decode cX2_advance 66 = .ok (.iconst 0, 1) := by decide +kernel
theorem dX2_advance_67 : decode cX2_advance 67 = .ok (.putfield 40, 3) := by decide +kernel
theorem dX2_advance_70 : decode cX2_advance 70 = .ok (.goto 230, 3) := by decide +kernel
theorem dX2_advance_73 : decode cX2_advance 73 = .ok (.aload_n 1, 1) := by decide +kernel
theorem dX2_advance_74 : decode cX2_advance 74 = .ok (.aload_n 0, 1) := by decide +kernel
theorem dX2_advance_75 : decode cX2_advance 75 = .ok (.getfield 31, 3) := by decide +kernel
theorem dX2_advance_78 : decode cX2_advance 78 = .ok (.baload, 1) := by decide +kernel
theorem dX2_advance_79 : decode cX2_advance 79 = .ok (.invokestatic 59, 3) := by decide +kernel
theorem dX2_advance_82 : decode cX2_advance 82 = .ok (.ifCond .eq 92, 3) := by decide +kernel
theorem dX2_advance_85 : decode cX2_advance 85 = .ok (.aload_n 0, 1) := by decide +kernel
theorem dX2_advance_86 : decode cX2_advance 86 = .ok (.lconst 0, 1) := by decide +kernel
theorem dX2_advance_87 : decode cX2_advance 87 = .ok (.putfield 62, 3) := by decide +kernel
theorem dX2_advance_90 : decode cX2_advance 90 = .ok (.aload_n 0, 1) := by decide +kernel
theorem dX2_advance_91 : decode cX2_advance 91 = .ok (.getfield 31, 3) := by decide +kernel
theorem dX2_advance_94 : decode cX2_advance 94 = .ok (.iload_n 2, 1) := by decide +kernel
theorem dX2_advance_95 : decode cX2_advance 95 = .ok (.if_icmp .ge 53, 3) := by decide +kernel
theorem dX2_advance_98 : decode cX2_advance 98 = .ok (.aload_n 1, 1) := by decide +kernel
theorem dX2_advance_99 : decode cX2_advance 99 = .ok (.aload_n 0, 1) := by decide +kernel
theorem dX2_advance_100 : decode cX2_advance 100 = .ok (.getfield 31, 3) := by decide +kernel
theorem dX2_advance_103 : decode cX2_advance 103 = .ok (.baload, 1) := by decide +kernel
theorem dX2_advance_104 : decode cX2_advance 104 = .ok (.invokestatic 59, 3) := by decide +kernel
theorem dX2_advance_107 : decode cX2_advance 107 = .ok (.ifCond .eq 41, 3) := by decide +kernel
theorem dX2_advance_110 : decode cX2_advance 110 = .ok (.aload_n 0, 1) := by decide +kernel
theorem dX2_advance_111 : decode cX2_advance 111 = .ok (.aload_n 0, 1) := by decide +kernel
theorem dX2_advance_112 : decode cX2_advance 112 = .ok (.getfield 62, 3) := by decide +kernel
theorem dX2_advance_115 : decode cX2_advance 115 = .ok (.ldc2_w 66, 3) := by decide +kernel
theorem dX2_advance_118 : decode cX2_advance 118 = .ok (.lmul, 1) := by decide +kernel
theorem dX2_advance_119 : decode cX2_advance 119 = .ok (.aload_n 1, 1) := by decide +kernel
theorem dX2_advance_120 : decode cX2_advance 120 = .ok (.aload_n 0, 1) := by decide +kernel
theorem dX2_advance_121 : decode cX2_advance 121 = .ok (.getfield 31, 3) := by decide +kernel
theorem dX2_advance_124 : decode cX2_advance 124 = .ok (.baload, 1) := by decide +kernel
theorem dX2_advance_125 : decode cX2_advance 125 = .ok (.bipush 97, 2) := by decide +kernel
theorem dX2_advance_127 : decode cX2_advance 127 = .ok (.isub, 1) := by decide +kernel
theorem dX2_advance_128 : decode cX2_advance 128 = .ok (.iconst 1, 1) := by decide +kernel
theorem dX2_advance_129 : decode cX2_advance 129 = .ok (.iadd, 1) := by decide +kernel
theorem dX2_advance_130 : decode cX2_advance 130 = .ok (.i2l, 1) := by decide +kernel
theorem dX2_advance_131 : decode cX2_advance 131 = .ok (.ladd, 1) := by decide +kernel
theorem dX2_advance_132 : decode cX2_advance 132 = .ok (.putfield 62, 3) := by decide +kernel
theorem dX2_advance_135 : decode cX2_advance 135 = .ok (.aload_n 0, 1) := by decide +kernel
theorem dX2_advance_136 : decode cX2_advance 136 = .ok (.dup, 1) := by decide +kernel
theorem dX2_advance_137 : decode cX2_advance 137 = .ok (.getfield 31, 3) := by decide +kernel
theorem dX2_advance_140 : decode cX2_advance 140 = .ok (.iconst 1, 1) := by decide +kernel
theorem dX2_advance_141 : decode cX2_advance 141 = .ok (.iadd, 1) := by decide +kernel
theorem dX2_advance_142 : decode cX2_advance 142 = .ok (.putfield 31, 3) := by decide +kernel
theorem dX2_advance_145 : decode cX2_advance 145 = .ok (.goto (-55), 3) := by decide +kernel
theorem dX2_advance_148 : decode cX2_advance 148 = .ok (.aload_n 0, 1) := by decide +kernel
theorem dX2_advance_149 : decode cX2_advance 149 = .ok (.aload_n 0, 1) := by decide +kernel
theorem dX2_advance_150 : decode cX2_advance 150 = .ok (.getfield 31, 3) := by decide +kernel
theorem dX2_advance_153 : decode cX2_advance 153 = .ok (.aload_n 0, 1) := by decide +kernel
theorem dX2_advance_154 : decode cX2_advance 154 = .ok (.getfield 43, 3) := by decide +kernel
theorem dX2_advance_157 : decode cX2_advance 157 = .ok (.isub, 1) := by decide +kernel
theorem dX2_advance_158 : decode cX2_advance 158 = .ok (.bipush 8, 2) := by decide +kernel
theorem dX2_advance_160 : decode cX2_advance 160 = .ok (.if_icmp .gt 7, 3) := by decide +kernel
theorem dX2_advance_163 : decode cX2_advance 163 = .ok (.iconst 1, 1) := by decide +kernel
theorem dX2_advance_164 : decode cX2_advance 164 = .ok (.goto 4, 3) := by decide +kernel
theorem dX2_advance_167 : decode cX2_advance 167 = .ok (.iconst 4, 1) := by decide +kernel
theorem dX2_advance_168 : decode cX2_advance 168 = .ok (.putfield 40, 3) := by decide +kernel
theorem dX2_advance_171 : decode cX2_advance 171 = .ok (.goto 129, 3) := by decide +kernel
theorem dX2_advance_174 : decode cX2_advance 174 = .ok (.aload_n 1, 1) := by decide +kernel
theorem dX2_advance_175 : decode cX2_advance 175 = .ok (.aload_n 0, 1) := by decide +kernel
theorem dX2_advance_176 : decode cX2_advance 176 = .ok (.getfield 31, 3) := by decide +kernel
theorem dX2_advance_179 : decode cX2_advance 179 = .ok (.baload, 1) := by decide +kernel
theorem dX2_advance_180 : decode cX2_advance 180 = .ok (.invokestatic 68, 3) := by decide +kernel
theorem dX2_advance_183 : decode cX2_advance 183 = .ok (.ifCond .eq 87, 3) := by decide +kernel
theorem dX2_advance_186 : decode cX2_advance 186 = .ok (.aload_n 0, 1) := by decide +kernel
theorem dX2_advance_187 : decode cX2_advance 187 = .ok (.iconst 0, 1) := by decide +kernel
theorem dX2_advance_188 : decode cX2_advance 188 = .ok (.putfield 71, 3) := by decide +kernel
theorem dX2_advance_191 : decode cX2_advance 191 = .ok (.aload_n 0, 1) := by decide +kernel
theorem dX2_advance_192 : decode cX2_advance 192 = .ok (.getfield 31, 3) := by decide +kernel
theorem dX2_advance_195 : decode cX2_advance 195 = .ok (.iload_n 2, 1) := by decide +kernel
theorem dX2_advance_196 : decode cX2_advance 196 = .ok (.if_icmp .ge 49, 3) := by decide +kernel
theorem dX2_advance_199 : decode cX2_advance 199 = .ok (.aload_n 1, 1) := by decide +kernel
theorem dX2_advance_200 : decode cX2_advance 200 = .ok (.aload_n 0, 1) := by decide +kernel
theorem dX2_advance_201 : decode cX2_advance 201 = .ok (.getfield 31, 3) := by decide +kernel
theorem dX2_advance_204 : decode cX2_advance 204 = .ok (.baload, 1) := by decide +kernel
theorem dX2_advance_205 : decode cX2_advance 205 = .ok (.invokestatic 68, 3) := by decide +kernel
theorem dX2_advance_208 : decode cX2_advance 208 = .ok (.ifCond .eq 37, 3) := by decide +kernel
theorem dX2_advance_211 : decode cX2_advance 211 = .ok (.aload_n 0, 1) := by decide +kernel
theorem dX2_advance_212 : decode cX2_advance 212 = .ok (.aload_n 0, 1) := by decide +kernel
theorem dX2_advance_213 : decode cX2_advance 213 = .ok (.getfield 71, 3) := by decide +kernel
theorem dX2_advance_216 : decode cX2_advance 216 = .ok (.bipush 10, 2) := by decide +kernel
theorem dX2_advance_218 : decode cX2_advance 218 = .ok (.imul, 1) := by decide +kernel
theorem dX2_advance_219 : decode cX2_advance 219 = .ok (.aload_n 1, 1) := by decide +kernel
theorem dX2_advance_220 : decode cX2_advance 220 = .ok (.aload_n 0, 1) := by decide +kernel
theorem dX2_advance_221 : decode cX2_advance 221 = .ok (.getfield 31, 3) := by decide +kernel
theorem dX2_advance_224 : decode cX2_advance 224 = .ok (.baload, 1) := by decide +kernel
theorem dX2_advance_225 : decode cX2_advance 225 = .ok (.bipush 48, 2) := by decide +kernel
theorem dX2_advance_227 : decode cX2_advance 227 = .ok (.isub, 1) := by decide +kernel
theorem dX2_advance_228 : decode cX2_advance 228 = .ok (.iadd, 1) := by decide +kernel
theorem dX2_advance_229 : decode cX2_advance 229 = .ok (.putfield 71, 3) := by decide +kernel
theorem dX2_advance_232 : decode cX2_advance 232 = .ok (.aload_n 0, 1) := by decide +kernel
theorem dX2_advance_233 : decode cX2_advance 233 = .ok (.dup, 1) := by decide +kernel
theorem dX2_advance_234 : decode cX2_advance 234 = .ok (.getfield 31, 3) := by decide +kernel
theorem dX2_advance_237 : decode cX2_advance 237 = .ok (.iconst 1, 1) := by decide +kernel
theorem dX2_advance_238 : decode cX2_advance 238 = .ok (.iadd, 1) := by decide +kernel
theorem dX2_advance_239 : decode cX2_advance 239 = .ok (.putfield 31, 3) := by decide +kernel
theorem dX2_advance_242 : decode cX2_advance 242 = .ok (.goto (-51), 3) := by decide +kernel
theorem dX2_advance_245 : decode cX2_advance 245 = .ok (.aload_n 0, 1) := by decide +kernel
theorem dX2_advance_246 : decode cX2_advance 246 = .ok (.aload_n 0, 1) := by decide +kernel
theorem dX2_advance_247 : decode cX2_advance 247 = .ok (.getfield 31, 3) := by decide +kernel
theorem dX2_advance_250 : decode cX2_advance 250 = .ok (.aload_n 0, 1) := by decide +kernel
theorem dX2_advance_251 : decode cX2_advance 251 = .ok (.getfield 43, 3) := by decide +kernel
theorem dX2_advance_254 : decode cX2_advance 254 = .ok (.isub, 1) := by decide +kernel
theorem dX2_advance_255 : decode cX2_advance 255 = .ok (.iconst 4, 1) := by decide +kernel
theorem dX2_advance_256 : decode cX2_advance 256 = .ok (.if_icmp .gt 7, 3) := by decide +kernel
theorem dX2_advance_259 : decode cX2_advance 259 = .ok (.iconst 2, 1) := by decide +kernel
theorem dX2_advance_260 : decode cX2_advance 260 = .ok (.goto 4, 3) := by decide +kernel
theorem dX2_advance_263 : decode cX2_advance 263 = .ok (.iconst 4, 1) := by decide +kernel
theorem dX2_advance_264 : decode cX2_advance 264 = .ok (.putfield 40, 3) := by decide +kernel
theorem dX2_advance_267 : decode cX2_advance 267 = .ok (.goto 33, 3) := by decide +kernel
theorem dX2_advance_270 : decode cX2_advance 270 = .ok (.aload_n 0, 1) := by decide +kernel
theorem dX2_advance_271 : decode cX2_advance 271 = .ok (.aload_n 1, 1) := by decide +kernel
theorem dX2_advance_272 : decode cX2_advance 272 = .ok (.aload_n 0, 1) := by decide +kernel
theorem dX2_advance_273 : decode cX2_advance 273 = .ok (.getfield 31, 3) := by decide +kernel
theorem dX2_advance_276 : decode cX2_advance 276 = .ok (.baload, 1) := by decide +kernel
theorem dX2_advance_277 : decode cX2_advance 277 = .ok (.bipush 59, 2) := by decide +kernel
theorem dX2_advance_279 : decode cX2_advance 279 = .ok (.if_icmp .ne 7, 3) := by decide +kernel
theorem dX2_advance_282 : decode cX2_advance 282 = .ok (.iconst 3, 1) := by decide +kernel
theorem dX2_advance_283 : decode cX2_advance 283 = .ok (.goto 4, 3) := by decide +kernel
theorem dX2_advance_286 : decode cX2_advance 286 = .ok (.iconst 4, 1) := by decide +kernel
theorem dX2_advance_287 : decode cX2_advance 287 = .ok (.putfield 40, 3) := by decide +kernel
theorem dX2_advance_290 : decode cX2_advance 290 = .ok (.aload_n 0, 1) := by decide +kernel
theorem dX2_advance_291 : decode cX2_advance 291 = .ok (.dup, 1) := by decide +kernel
theorem dX2_advance_292 : decode cX2_advance 292 = .ok (.getfield 31, 3) := by decide +kernel
theorem dX2_advance_295 : decode cX2_advance 295 = .ok (.iconst 1, 1) := by decide +kernel
theorem dX2_advance_296 : decode cX2_advance 296 = .ok (.iadd, 1) := by decide +kernel
theorem dX2_advance_297 : decode cX2_advance 297 = .ok (.putfield 31, 3) := by decide +kernel
theorem dX2_advance_300 : decode cX2_advance 300 = .ok (.return_, 1) := by decide +kernel
theorem dX2_hasMore_0 : decode cX2_hasMore 0 = .ok (.aload_n 0, 1) := by decide +kernel
theorem dX2_hasMore_1 : decode cX2_hasMore 1 = .ok (.invokevirtual 37, 3) := by decide +kernel
theorem dX2_hasMore_4 : decode cX2_hasMore 4 = .ok (.aload_n 0, 1) := by decide +kernel
theorem dX2_hasMore_5 : decode cX2_hasMore 5 = .ok (.getfield 40, 3) := by decide +kernel
theorem dX2_hasMore_8 : decode cX2_hasMore 8 = .ok (.ifCond .eq 7, 3) := by decide +kernel
theorem dX2_hasMore_11 : decode cX2_hasMore 11 = .ok (.iconst 1, 1) := by decide +kernel
theorem dX2_hasMore_12 : decode cX2_hasMore 12 = .ok (.goto 4, 3) := by decide +kernel
theorem dX2_hasMore_15 : decode cX2_hasMore 15 = .ok (.iconst 0, 1) := by decide +kernel
theorem dX2_hasMore_16 : decode cX2_hasMore 16 = .ok (.ireturn, 1) := by decide +kernel
theorem dX2_refuse_0 : decode cX2_refuse 0 = .ok (.aload_n 0, 1) := by decide +kernel
theorem dX2_refuse_1 : decode cX2_refuse 1 = .ok (.iload_n 1, 1) := by decide +kernel
theorem dX2_refuse_2 : decode cX2_refuse 2 = .ok (.putfield 9, 3) := by decide +kernel
theorem dX2_refuse_5 : decode cX2_refuse 5 = .ok (.aload_n 0, 1) := by decide +kernel
theorem dX2_refuse_6 : decode cX2_refuse 6 = .ok (.aload_n 0, 1) := by decide +kernel
theorem dX2_refuse_7 : decode cX2_refuse 7 = .ok (.getfield 43, 3) := by decide +kernel
theorem dX2_refuse_10 : decode cX2_refuse 10 = .ok (.putfield 15, 3) := by decide +kernel
theorem dX2_refuse_13 : decode cX2_refuse 13 = .ok (.iconst 0, 1) := by decide +kernel
theorem dX2_refuse_14 : decode cX2_refuse 14 = .ok (.ireturn, 1) := by decide +kernel
theorem dX2_closes_0 : decode cX2_closes 0 = .ok (.aload_n 0, 1) := by decide +kernel
theorem dX2_closes_1 : decode cX2_closes 1 = .ok (.invokevirtual 37, 3) := by decide +kernel
theorem dX2_closes_4 : decode cX2_closes 4 = .ok (.aload_n 0, 1) := by decide +kernel
theorem dX2_closes_5 : decode cX2_closes 5 = .ok (.getfield 40, 3) := by decide +kernel
theorem dX2_closes_8 : decode cX2_closes 8 = .ok (.iconst 3, 1) := by decide +kernel
theorem dX2_closes_9 : decode cX2_closes 9 = .ok (.if_icmp .eq 11, 3) := by decide +kernel
theorem dX2_closes_12 : decode cX2_closes 12 = .ok (.aload_n 0, 1) := by decide +kernel
theorem dX2_closes_13 : decode cX2_closes 13 = .ok (.iconst 1, 1) := by decide +kernel
theorem dX2_closes_14 : decode cX2_closes 14 = .ok (.invokevirtual 138, 3) := by decide +kernel
theorem dX2_closes_17 : decode cX2_closes 17 = .ok (.ifCond .eq 7, 3) := by decide +kernel
theorem dX2_closes_20 : decode cX2_closes 20 = .ok (.iconst 1, 1) := by decide +kernel
theorem dX2_closes_21 : decode cX2_closes 21 = .ok (.goto 4, 3) := by decide +kernel
theorem dX2_closes_24 : decode cX2_closes 24 = .ok (.iconst 0, 1) := by decide +kernel
theorem dX2_closes_25 : decode cX2_closes 25 = .ok (.ireturn, 1) := by decide +kernel
theorem dX2_isFirst_0 : decode cX2_isFirst 0 = .ok (.aload_n 0, 1) := by decide +kernel
theorem dX2_isFirst_1 : decode cX2_isFirst 1 = .ok (.getfield 34, 3) := by decide +kernel
theorem dX2_isFirst_4 : decode cX2_isFirst 4 = .ok (.iload_n 1, 1) := by decide +kernel
theorem dX2_isFirst_5 : decode cX2_isFirst 5 = .ok (.iand, 1) := by decide +kernel
theorem dX2_isFirst_6 : decode cX2_isFirst 6 = .ok (.ifCond .eq 9, 3) := by decide +kernel
theorem dX2_isFirst_9 : decode cX2_isFirst 9 = .ok (.aload_n 0, 1) := by decide +kernel
theorem dX2_isFirst_10 : decode cX2_isFirst 10 = .ok (.iconst 3, 1) := by decide +kernel
theorem dX2_isFirst_11 : decode cX2_isFirst 11 = .ok (.invokevirtual 138, 3) := by decide +kernel
theorem dX2_isFirst_14 : decode cX2_isFirst 14 = .ok (.ireturn, 1) := by decide +kernel
theorem dX2_isFirst_15 : decode cX2_isFirst 15 = .ok (.aload_n 0, 1) := by decide +kernel
theorem dX2_isFirst_16 : decode cX2_isFirst 16 = .ok (.dup, 1) := by decide +kernel
theorem dX2_isFirst_17 : decode cX2_isFirst 17 = .ok (.getfield 34, 3) := by decide +kernel
theorem dX2_isFirst_20 : decode cX2_isFirst 20 = .ok (.iload_n 1, 1) := by decide +kernel
theorem dX2_isFirst_21 : decode cX2_isFirst 21 = .ok (.ior, 1) := by decide +kernel
theorem dX2_isFirst_22 : decode cX2_isFirst 22 = .ok (.putfield 34, 3) := by decide +kernel
theorem dX2_isFirst_25 : decode cX2_isFirst 25 = .ok (.iconst 1, 1) := by decide +kernel
theorem dX2_isFirst_26 : decode cX2_isFirst 26 = .ok (.ireturn, 1) := by decide +kernel
theorem dX2_readName_0 : decode cX2_readName 0 = .ok (.aload_n 0, 1) := by decide +kernel
theorem dX2_readName_1 : decode cX2_readName 1 = .ok (.invokevirtual 37, 3) := by decide +kernel
theorem dX2_readName_4 : decode cX2_readName 4 = .ok (.aload_n 0, 1) := by decide +kernel
theorem dX2_readName_5 : decode cX2_readName 5 = .ok (.getfield 40, 3) := by decide +kernel
theorem dX2_readName_8 : decode cX2_readName 8 = .ok (.iconst 1, 1) := by decide +kernel
theorem dX2_readName_9 : decode cX2_readName 9 = .ok (.if_icmp .eq 9, 3) := by decide +kernel
theorem dX2_readName_12 : decode cX2_readName 12 = .ok (.aload_n 0, 1) := by decide +kernel
theorem dX2_readName_13 : decode cX2_readName 13 = .ok (.iconst 1, 1) := by decide +kernel
theorem dX2_readName_14 : decode cX2_readName 14 = .ok (.invokevirtual 138, 3) := by decide +kernel
theorem dX2_readName_17 : decode cX2_readName 17 = .ok (.ireturn, 1) := by decide +kernel
theorem dX2_readName_18 : decode cX2_readName 18 = .ok (.iconst 0, 1) := by decide +kernel
theorem dX2_readName_19 : decode cX2_readName 19 = .ok (.istore_n 3, 1) := by decide +kernel
theorem dX2_readName_20 : decode cX2_readName 20 = .ok (.iload_n 3, 1) := by decide +kernel
theorem dX2_readName_21 : decode cX2_readName 21 = .ok (.iload_n 2, 1) := by decide +kernel
theorem dX2_readName_22 : decode cX2_readName 22 = .ok (.if_icmp .ge 32, 3) := by decide +kernel
theorem dX2_readName_25 : decode cX2_readName 25 = .ok (.iload_n 3, 1) := by decide +kernel
theorem dX2_readName_26 : decode cX2_readName 26 = .ok (.aload_n 1, 1) := by decide +kernel
theorem dX2_readName_27 : decode cX2_readName 27 = .ok (.arraylength, 1) := by decide +kernel
theorem dX2_readName_28 : decode cX2_readName 28 = .ok (.if_icmp .ge 26, 3) := by decide +kernel
theorem dX2_readName_31 : decode cX2_readName 31 = .ok (.aload_n 1, 1) := by decide +kernel
theorem dX2_readName_32 : decode cX2_readName 32 = .ok (.iload_n 3, 1) := by decide +kernel
theorem dX2_readName_33 : decode cX2_readName 33 = .ok (.laload, 1) := by decide +kernel
theorem dX2_readName_34 : decode cX2_readName 34 = .ok (.aload_n 0, 1) := by decide +kernel
theorem dX2_readName_35 : decode cX2_readName 35 = .ok (.getfield 62, 3) := by decide +kernel
theorem dX2_readName_38 : decode cX2_readName 38 = .ok (.lcmp, 1) := by decide +kernel
theorem dX2_readName_39 : decode cX2_readName 39 = .ok (.ifCond .ne 9, 3) := by decide +kernel
theorem dX2_readName_42 : decode cX2_readName 42 = .ok (.aload_n 0, 1) := by decide +kernel
theorem dX2_readName_43 : decode cX2_readName 43 = .ok (.iconst 3, 1) := by decide +kernel
theorem dX2_readName_44 : decode cX2_readName 44 = .ok (.invokevirtual 138, 3) := by decide +kernel
theorem dX2_readName_47 : decode cX2_readName 47 = .ok (.ireturn, 1) := by decide +kernel
theorem dX2_readName_48 : decode cX2_readName 48 = .ok (.iinc 3 1, 3) := by decide +kernel
theorem dX2_readName_51 : decode cX2_readName 51 = .ok (.goto (-31), 3) := by decide +kernel
theorem dX2_readName_54 : decode cX2_readName 54 = .ok (.iload_n 2, 1) := by decide +kernel
theorem dX2_readName_55 : decode cX2_readName 55 = .ok (.aload_n 1, 1) := by decide +kernel
theorem dX2_readName_56 : decode cX2_readName 56 = .ok (.arraylength, 1) := by decide +kernel
theorem dX2_readName_57 : decode cX2_readName 57 = .ok (.if_icmp .ge 10, 3) := by decide +kernel
theorem dX2_readName_60 : decode cX2_readName 60 = .ok (.aload_n 1, 1) := by decide +kernel
theorem dX2_readName_61 : decode cX2_readName 61 = .ok (.iload_n 2, 1) := by decide +kernel
theorem dX2_readName_62 : decode cX2_readName 62 = .ok (.aload_n 0, 1) := by decide +kernel
theorem dX2_readName_63 : decode cX2_readName 63 = .ok (.getfield 62, 3) := by decide +kernel
theorem dX2_readName_66 : decode cX2_readName 66 = .ok (.lastore, 1) := by decide +kernel
theorem dX2_readName_67 : decode cX2_readName 67 = .ok (.iconst 1, 1) := by decide +kernel
theorem dX2_readName_68 : decode cX2_readName 68 = .ok (.ireturn, 1) := by decide +kernel
theorem dX2_readNumber_0 : decode cX2_readNumber 0 = .ok (.aload_n 0, 1) := by decide +kernel
theorem dX2_readNumber_1 : decode cX2_readNumber 1 = .ok (.invokevirtual 37, 3) := by decide +kernel
theorem dX2_readNumber_4 : decode cX2_readNumber 4 = .ok (.aload_n 0, 1) := by decide +kernel
theorem dX2_readNumber_5 : decode cX2_readNumber 5 = .ok (.getfield 40, 3) := by decide +kernel
theorem dX2_readNumber_8 : decode cX2_readNumber 8 = .ok (.iconst 2, 1) := by decide +kernel
theorem dX2_readNumber_9 : decode cX2_readNumber 9 = .ok (.if_icmp .eq 9, 3) := by decide +kernel
theorem dX2_readNumber_12 : decode cX2_readNumber 12 = .ok (.aload_n 0, 1) := by decide +kernel
theorem dX2_readNumber_13 : decode cX2_readNumber 13 = .ok (.iconst 1, 1) := by decide +kernel
theorem dX2_readNumber_14 : decode cX2_readNumber 14 = .ok (.invokevirtual 138, 3) := by decide +kernel
theorem dX2_readNumber_17 : decode cX2_readNumber 17 = .ok (.ireturn, 1) := by decide +kernel
theorem dX2_readNumber_18 : decode cX2_readNumber 18 = .ok (.aload_n 0, 1) := by decide +kernel
theorem dX2_readNumber_19 : decode cX2_readNumber 19 = .ok (.getfield 71, 3) := by decide +kernel
theorem dX2_readNumber_22 : decode cX2_readNumber 22 = .ok (.iload_n 1, 1) := by decide +kernel
theorem dX2_readNumber_23 : decode cX2_readNumber 23 = .ok (.iload_n 2, 1) := by decide +kernel
theorem dX2_readNumber_24 : decode cX2_readNumber 24 = .ok (.invokestatic 141, 3) := by decide +kernel
theorem dX2_readNumber_27 : decode cX2_readNumber 27 = .ok (.ifCond .ne 11, 3) := by decide +kernel
theorem dX2_readNumber_30 : decode cX2_readNumber 30 = .ok (.aload_n 0, 1) := by decide +kernel
theorem dX2_readNumber_31 : decode cX2_readNumber 31 = .ok (.iconst 2, 1) := by decide +kernel
theorem dX2_readNumber_32 : decode cX2_readNumber 32 = .ok (.invokevirtual 138, 3) := by decide +kernel
theorem dX2_readNumber_35 : decode cX2_readNumber 35 = .ok (.ifCond .eq 7, 3) := by decide +kernel
theorem dX2_readNumber_38 : decode cX2_readNumber 38 = .ok (.iconst 1, 1) := by decide +kernel
theorem dX2_readNumber_39 : decode cX2_readNumber 39 = .ok (.goto 4, 3) := by decide +kernel
theorem dX2_readNumber_42 : decode cX2_readNumber 42 = .ok (.iconst 0, 1) := by decide +kernel
theorem dX2_readNumber_43 : decode cX2_readNumber 43 = .ok (.ireturn, 1) := by decide +kernel
theorem dX2_readRow_0 : decode cX2_readRow 0 = .ok (.iload_n 2, 1) := by decide +kernel
theorem dX2_readRow_1 : decode cX2_readRow 1 = .ok (.istore 4, 2) := by decide +kernel
theorem dX2_readRow_3 : decode cX2_readRow 3 = .ok (.iload 4, 2) := by decide +kernel
theorem dX2_readRow_5 : decode cX2_readRow 5 = .ok (.iload_n 2, 1) := by decide +kernel
theorem dX2_readRow_6 : decode cX2_readRow 6 = .ok (.iconst 3, 1) := by decide +kernel
theorem dX2_readRow_7 : decode cX2_readRow 7 = .ok (.iadd, 1) := by decide +kernel
theorem dX2_readRow_8 : decode cX2_readRow 8 = .ok (.if_icmp .ge 35, 3) := by decide +kernel
theorem dX2_readRow_11 : decode cX2_readRow 11 = .ok (.iload 4, 2) := by decide +kernel
theorem dX2_readRow_13 : decode cX2_readRow 13 = .ok (.aload_n 1, 1) := by decide +kernel
theorem dX2_readRow_14 : decode cX2_readRow 14 = .ok (.arraylength, 1) := by decide +kernel
theorem dX2_readRow_15 : decode cX2_readRow 15 = .ok (.if_icmp .ge 28, 3) := by decide +kernel
theorem dX2_readRow_18 : decode cX2_readRow 18 = .ok (.aload_n 0, 1) := by decide +kernel
theorem dX2_readRow_19 : decode cX2_readRow 19 = .ok (.iconst 0, 1) := by decide +kernel
theorem dX2_readRow_20 : decode cX2_readRow 20 = .ok (.iload_n 3, 1) := by decide +kernel
theorem dX2_readRow_21 : decode cX2_readRow 21 = .ok (.invokevirtual 145, 3) := by decide +kernel
theorem dX2_readRow_24 : decode cX2_readRow 24 = .ok (.ifCond .ne 5, 3) := by decide +kernel
theorem dX2_readRow_27 : decode cX2_readRow 27 = .ok (.iconst 0, 1) := by decide +kernel
theorem dX2_readRow_28 : decode cX2_readRow 28 = .ok (.ireturn, 1) := by decide +kernel
theorem dX2_readRow_29 : decode cX2_readRow 29 = .ok (.aload_n 1, 1) := by decide +kernel
theorem dX2_readRow_30 : decode cX2_readRow 30 = .ok (.iload 4, 2) := by decide +kernel
theorem dX2_readRow_32 : decode cX2_readRow 32 = .ok (.aload_n 0, 1) := by decide +kernel
theorem dX2_readRow_33 : decode cX2_readRow 33 = .ok (.getfield 71, 3) := by decide +kernel
theorem dX2_readRow_36 : decode cX2_readRow 36 = .ok (.iastore, 1) := by decide +kernel
theorem dX2_readRow_37 : decode cX2_readRow 37 = .ok (.iinc 4 1, 3) := by decide +kernel
theorem dX2_readRow_40 : decode cX2_readRow 40 = .ok (.goto (-37), 3) := by decide +kernel
theorem dX2_readRow_43 : decode cX2_readRow 43 = .ok (.iconst 1, 1) := by decide +kernel
theorem dX2_readRow_44 : decode cX2_readRow 44 = .ok (.ireturn, 1) := by decide +kernel
theorem dX2_readMender_0 : decode cX2_readMender 0 = .ok (.aload_n 0, 1) := by decide +kernel
theorem dX2_readMender_1 : decode cX2_readMender 1 = .ok (.getfield 22, 3) := by decide +kernel
theorem dX2_readMender_4 : decode cX2_readMender 4 = .ok (.getfield 159, 3) := by decide +kernel
theorem dX2_readMender_7 : decode cX2_readMender 7 = .ok (.istore_n 1, 1) := by decide +kernel
theorem dX2_readMender_8 : decode cX2_readMender 8 = .ok (.iload_n 1, 1) := by decide +kernel
theorem dX2_readMender_9 : decode cX2_readMender 9 = .ok (.iconst 3, 1) := by decide +kernel
theorem dX2_readMender_10 : decode cX2_readMender 10 = .ok (.if_icmp .lt 9, 3) := by decide +kernel
theorem dX2_readMender_13 : decode cX2_readMender 13 = .ok (.aload_n 0, 1) := by decide +kernel
theorem dX2_readMender_14 : decode cX2_readMender 14 = .ok (.iconst 4, 1) := by decide +kernel
theorem dX2_readMender_15 : decode cX2_readMender 15 = .ok (.invokevirtual 138, 3) := by decide +kernel
theorem dX2_readMender_18 : decode cX2_readMender 18 = .ok (.ireturn, 1) := by decide +kernel
theorem dX2_readMender_19 : decode cX2_readMender 19 = .ok (.iload_n 1, 1) := by decide +kernel
theorem dX2_readMender_20 : decode cX2_readMender 20 = .ok (.ifCond .ne 7, 3) := by decide +kernel
theorem dX2_readMender_23 : decode cX2_readMender 23 = .ok (.iconst 1, 1) := by decide +kernel
theorem dX2_readMender_24 : decode cX2_readMender 24 = .ok (.goto 16, 3) := by decide +kernel
theorem dX2_readMender_27 : decode cX2_readMender 27 = .ok (.aload_n 0, 1) := by decide +kernel
theorem dX2_readMender_28 : decode cX2_readMender 28 = .ok (.getfield 22, 3) := by decide +kernel
theorem dX2_readMender_31 : decode cX2_readMender 31 = .ok (.getfield 162, 3) := by decide +kernel
theorem dX2_readMender_34 : decode cX2_readMender 34 = .ok (.iload_n 1, 1) := by decide +kernel
theorem dX2_readMender_35 : decode cX2_readMender 35 = .ok (.iconst 1, 1) := by decide +kernel
theorem dX2_readMender_36 : decode cX2_readMender 36 = .ok (.isub, 1) := by decide +kernel
theorem dX2_readMender_37 : decode cX2_readMender 37 = .ok (.iaload, 1) := by decide +kernel
theorem dX2_readMender_38 : decode cX2_readMender 38 = .ok (.iconst 1, 1) := by decide +kernel
theorem dX2_readMender_39 : decode cX2_readMender 39 = .ok (.iadd, 1) := by decide +kernel
theorem dX2_readMender_40 : decode cX2_readMender 40 = .ok (.istore_n 2, 1) := by decide +kernel
theorem dX2_readMender_41 : decode cX2_readMender 41 = .ok (.aload_n 0, 1) := by decide +kernel
theorem dX2_readMender_42 : decode cX2_readMender 42 = .ok (.iload_n 2, 1) := by decide +kernel
theorem dX2_readMender_43 : decode cX2_readMender 43 = .ok (.sipush 999, 3) := by decide +kernel
theorem dX2_readMender_46 : decode cX2_readMender 46 = .ok (.invokevirtual 145, 3) := by decide +kernel
theorem dX2_readMender_49 : decode cX2_readMender 49 = .ok (.ifCond .ne 5, 3) := by decide +kernel
theorem dX2_readMender_52 : decode cX2_readMender 52 = .ok (.iconst 0, 1) := by decide +kernel
theorem dX2_readMender_53 : decode cX2_readMender 53 = .ok (.ireturn, 1) := by decide +kernel
theorem dX2_readMender_54 : decode cX2_readMender 54 = .ok (.aload_n 0, 1) := by decide +kernel
theorem dX2_readMender_55 : decode cX2_readMender 55 = .ok (.getfield 22, 3) := by decide +kernel
theorem dX2_readMender_58 : decode cX2_readMender 58 = .ok (.getfield 162, 3) := by decide +kernel
theorem dX2_readMender_61 : decode cX2_readMender 61 = .ok (.iload_n 1, 1) := by decide +kernel
theorem dX2_readMender_62 : decode cX2_readMender 62 = .ok (.aload_n 0, 1) := by decide +kernel
theorem dX2_readMender_63 : decode cX2_readMender 63 = .ok (.getfield 71, 3) := by decide +kernel
theorem dX2_readMender_66 : decode cX2_readMender 66 = .ok (.iastore, 1) := by decide +kernel
theorem dX2_readMender_67 : decode cX2_readMender 67 = .ok (.aload_n 0, 1) := by decide +kernel
theorem dX2_readMender_68 : decode cX2_readMender 68 = .ok (.getfield 22, 3) := by decide +kernel
theorem dX2_readMender_71 : decode cX2_readMender 71 = .ok (.dup, 1) := by decide +kernel
theorem dX2_readMender_72 : decode cX2_readMender 72 = .ok (.getfield 159, 3) := by decide +kernel
theorem dX2_readMender_75 : decode cX2_readMender 75 = .ok (.iconst 1, 1) := by decide +kernel
theorem dX2_readMender_76 : decode cX2_readMender 76 = .ok (.iadd, 1) := by decide +kernel
theorem dX2_readMender_77 : decode cX2_readMender 77 = .ok (.putfield 159, 3) := by decide +kernel
theorem dX2_readMender_80 : decode cX2_readMender 80 = .ok (.iconst 1, 1) := by decide +kernel
theorem dX2_readMender_81 : decode cX2_readMender 81 = .ok (.ireturn, 1) := by decide +kernel
theorem dX2_readMost_0 : decode cX2_readMost 0 = .ok (.aload_n 0, 1) := by decide +kernel
theorem dX2_readMost_1 : decode cX2_readMost 1 = .ok (.iconst 1, 1) := by decide +kernel
theorem dX2_readMost_2 : decode cX2_readMost 2 = .ok (.iconst 2, 1) := by decide +kernel
theorem dX2_readMost_3 : decode cX2_readMost 3 = .ok (.invokevirtual 145, 3) := by decide +kernel
theorem dX2_readMost_6 : decode cX2_readMost 6 = .ok (.ifCond .ne 5, 3) := by decide +kernel
theorem dX2_readMost_9 : decode cX2_readMost 9 = .ok (.iconst 0, 1) := by decide +kernel
theorem dX2_readMost_10 : decode cX2_readMost 10 = .ok (.ireturn, 1) := by decide +kernel
theorem dX2_readMost_11 : decode cX2_readMost 11 = .ok (.aload_n 0, 1) := by decide +kernel
theorem dX2_readMost_12 : decode cX2_readMost 12 = .ok (.getfield 22, 3) := by decide +kernel
theorem dX2_readMost_15 : decode cX2_readMost 15 = .ok (.aload_n 0, 1) := by decide +kernel
theorem dX2_readMost_16 : decode cX2_readMost 16 = .ok (.getfield 71, 3) := by decide +kernel
theorem dX2_readMost_19 : decode cX2_readMost 19 = .ok (.putfield 157, 3) := by decide +kernel
theorem dX2_readMost_22 : decode cX2_readMost 22 = .ok (.iconst 1, 1) := by decide +kernel
theorem dX2_readMost_23 : decode cX2_readMost 23 = .ok (.ireturn, 1) := by decide +kernel
theorem dX2_readSize_0 : decode cX2_readSize 0 = .ok (.aload_n 0, 1) := by decide +kernel
theorem dX2_readSize_1 : decode cX2_readSize 1 = .ok (.iconst 1, 1) := by decide +kernel
theorem dX2_readSize_2 : decode cX2_readSize 2 = .ok (.bipush 8, 2) := by decide +kernel
theorem dX2_readSize_4 : decode cX2_readSize 4 = .ok (.invokevirtual 145, 3) := by decide +kernel
theorem dX2_readSize_7 : decode cX2_readSize 7 = .ok (.ifCond .ne 5, 3) := by decide +kernel
theorem dX2_readSize_10 : decode cX2_readSize 10 = .ok (.iconst 0, 1) := by decide +kernel
theorem dX2_readSize_11 : decode cX2_readSize 11 = .ok (.ireturn, 1) := by decide +kernel
theorem dX2_readSize_12 : decode cX2_readSize 12 = .ok (.aload_n 0, 1) := by decide +kernel
theorem dX2_readSize_13 : decode cX2_readSize 13 = .ok (.getfield 22, 3) := by decide +kernel
theorem dX2_readSize_16 : decode cX2_readSize 16 = .ok (.aload_n 0, 1) := by decide +kernel
theorem dX2_readSize_17 : decode cX2_readSize 17 = .ok (.getfield 71, 3) := by decide +kernel
theorem dX2_readSize_20 : decode cX2_readSize 20 = .ok (.putfield 149, 3) := by decide +kernel
theorem dX2_readSize_23 : decode cX2_readSize 23 = .ok (.aload_n 0, 1) := by decide +kernel
theorem dX2_readSize_24 : decode cX2_readSize 24 = .ok (.iconst 1, 1) := by decide +kernel
theorem dX2_readSize_25 : decode cX2_readSize 25 = .ok (.bipush 6, 2) := by decide +kernel
theorem dX2_readSize_27 : decode cX2_readSize 27 = .ok (.invokevirtual 145, 3) := by decide +kernel
theorem dX2_readSize_30 : decode cX2_readSize 30 = .ok (.ifCond .ne 5, 3) := by decide +kernel
theorem dX2_readSize_33 : decode cX2_readSize 33 = .ok (.iconst 0, 1) := by decide +kernel
theorem dX2_readSize_34 : decode cX2_readSize 34 = .ok (.ireturn, 1) := by decide +kernel
theorem dX2_readSize_35 : decode cX2_readSize 35 = .ok (.aload_n 0, 1) := by decide +kernel
theorem dX2_readSize_36 : decode cX2_readSize 36 = .ok (.getfield 22, 3) := by decide +kernel
theorem dX2_readSize_39 : decode cX2_readSize 39 = .ok (.aload_n 0, 1) := by decide +kernel
theorem dX2_readSize_40 : decode cX2_readSize 40 = .ok (.getfield 71, 3) := by decide +kernel
theorem dX2_readSize_43 : decode cX2_readSize 43 = .ok (.putfield 152, 3) := by decide +kernel
theorem dX2_readSize_46 : decode cX2_readSize 46 = .ok (.iconst 1, 1) := by decide +kernel
theorem dX2_readSize_47 : decode cX2_readSize 47 = .ok (.ireturn, 1) := by decide +kernel
theorem dX2_readSlack_0 : decode cX2_readSlack 0 = .ok (.aload_n 0, 1) := by decide +kernel
theorem dX2_readSlack_1 : decode cX2_readSlack 1 = .ok (.iconst 0, 1) := by decide +kernel
theorem dX2_readSlack_2 : decode cX2_readSlack 2 = .ok (.bipush 20, 2) := by decide +kernel
theorem dX2_readSlack_4 : decode cX2_readSlack 4 = .ok (.invokevirtual 145, 3) := by decide +kernel
theorem dX2_readSlack_7 : decode cX2_readSlack 7 = .ok (.ifCond .ne 5, 3) := by decide +kernel
theorem dX2_readSlack_10 : decode cX2_readSlack 10 = .ok (.iconst 0, 1) := by decide +kernel
theorem dX2_readSlack_11 : decode cX2_readSlack 11 = .ok (.ireturn, 1) := by decide +kernel
theorem dX2_readSlack_12 : decode cX2_readSlack 12 = .ok (.aload_n 0, 1) := by decide +kernel
theorem dX2_readSlack_13 : decode cX2_readSlack 13 = .ok (.getfield 22, 3) := by decide +kernel
theorem dX2_readSlack_16 : decode cX2_readSlack 16 = .ok (.aload_n 0, 1) := by decide +kernel
theorem dX2_readSlack_17 : decode cX2_readSlack 17 = .ok (.getfield 71, 3) := by decide +kernel
theorem dX2_readSlack_20 : decode cX2_readSlack 20 = .ok (.putfield 155, 3) := by decide +kernel
theorem dX2_readSlack_23 : decode cX2_readSlack 23 = .ok (.iconst 1, 1) := by decide +kernel
theorem dX2_readSlack_24 : decode cX2_readSlack 24 = .ok (.ireturn, 1) := by decide +kernel
theorem dX2_readStuff_0 : decode cX2_readStuff 0 = .ok (.aload_n 0, 1) := by decide +kernel
theorem dX2_readStuff_1 : decode cX2_readStuff 1 = .ok (.getfield 22, 3) := by decide +kernel
theorem dX2_readStuff_4 : decode cX2_readStuff 4 = .ok (.getfield 165, 3) := by decide +kernel
theorem dX2_readStuff_7 : decode cX2_readStuff 7 = .ok (.iconst 5, 1) := by decide +kernel
theorem dX2_readStuff_8 : decode cX2_readStuff 8 = .ok (.if_icmp .lt 9, 3) := by decide +kernel
theorem dX2_readStuff_11 : decode cX2_readStuff 11 = .ok (.aload_n 0, 1) := by decide +kernel
theorem dX2_readStuff_12 : decode cX2_readStuff 12 = .ok (.iconst 4, 1) := by decide +kernel
theorem dX2_readStuff_13 : decode cX2_readStuff 13 = .ok (.invokevirtual 138, 3) := by decide +kernel
theorem dX2_readStuff_16 : decode cX2_readStuff 16 = .ok (.ireturn, 1) := by decide +kernel
theorem dX2_readStuff_17 : decode cX2_readStuff 17 = .ok (.aload_n 0, 1) := by decide +kernel
theorem dX2_readStuff_18 : decode cX2_readStuff 18 = .ok (.aload_n 0, 1) := by decide +kernel
theorem dX2_readStuff_19 : decode cX2_readStuff 19 = .ok (.getfield 22, 3) := by decide +kernel
theorem dX2_readStuff_22 : decode cX2_readStuff 22 = .ok (.getfield 168, 3) := by decide +kernel
theorem dX2_readStuff_25 : decode cX2_readStuff 25 = .ok (.aload_n 0, 1) := by decide +kernel
theorem dX2_readStuff_26 : decode cX2_readStuff 26 = .ok (.getfield 22, 3) := by decide +kernel
theorem dX2_readStuff_29 : decode cX2_readStuff 29 = .ok (.getfield 165, 3) := by decide +kernel
theorem dX2_readStuff_32 : decode cX2_readStuff 32 = .ok (.invokevirtual 172, 3) := by decide +kernel
theorem dX2_readStuff_35 : decode cX2_readStuff 35 = .ok (.ifCond .ne 5, 3) := by decide +kernel
theorem dX2_readStuff_38 : decode cX2_readStuff 38 = .ok (.iconst 0, 1) := by decide +kernel
theorem dX2_readStuff_39 : decode cX2_readStuff 39 = .ok (.ireturn, 1) := by decide +kernel
theorem dX2_readStuff_40 : decode cX2_readStuff 40 = .ok (.iconst 0, 1) := by decide +kernel
theorem dX2_readStuff_41 : decode cX2_readStuff 41 = .ok (.istore_n 1, 1) := by decide +kernel
theorem dX2_readStuff_42 : decode cX2_readStuff 42 = .ok (.iload_n 1, 1) := by decide +kernel
theorem dX2_readStuff_43 : decode cX2_readStuff 43 = .ok (.getstatic 176, 3) := by decide +kernel
theorem dX2_readStuff_46 : decode cX2_readStuff 46 = .ok (.arraylength, 1) := by decide +kernel
theorem dX2_readStuff_47 : decode cX2_readStuff 47 = .ok (.if_icmp .ge 52, 3) := by decide +kernel
theorem dX2_readStuff_50 : decode cX2_readStuff 50 = .ok (.aload_n 0, 1) := by decide +kernel
theorem dX2_readStuff_51 : decode cX2_readStuff 51 = .ok (.getstatic 176, 3) := by decide +kernel
theorem dX2_readStuff_54 : decode cX2_readStuff 54 = .ok (.iload_n 1, 1) := by decide +kernel
theorem dX2_readStuff_55 : decode cX2_readStuff 55 = .ok (.iaload, 1) := by decide +kernel
theorem dX2_readStuff_56 : decode cX2_readStuff 56 = .ok (.getstatic 179, 3) := by decide +kernel
theorem dX2_readStuff_59 : decode cX2_readStuff 59 = .ok (.iload_n 1, 1) := by decide +kernel
theorem dX2_readStuff_60 : decode cX2_readStuff 60 = .ok (.iaload, 1) := by decide +kernel
theorem dX2_readStuff_61 : decode cX2_readStuff 61 = .ok (.invokevirtual 145, 3) := by decide +kernel
theorem dX2_readStuff_64 : decode cX2_readStuff 64 = .ok (.ifCond .ne 5, 3) := by decide +kernel
theorem dX2_readStuff_67 : decode cX2_readStuff 67 = .ok (.iconst 0, 1) := by decide +kernel
theorem dX2_readStuff_68 : decode cX2_readStuff 68 = .ok (.ireturn, 1) := by decide +kernel
theorem dX2_readStuff_69 : decode cX2_readStuff 69 = .ok (.aload_n 0, 1) := by decide +kernel
theorem dX2_readStuff_70 : decode cX2_readStuff 70 = .ok (.getfield 22, 3) := by decide +kernel
theorem dX2_readStuff_73 : decode cX2_readStuff 73 = .ok (.getfield 182, 3) := by decide +kernel
theorem dX2_readStuff_76 : decode cX2_readStuff 76 = .ok (.aload_n 0, 1) := by decide +kernel
theorem dX2_readStuff_77 : decode cX2_readStuff 77 = .ok (.getfield 22, 3) := by decide +kernel
theorem dX2_readStuff_80 : decode cX2_readStuff 80 = .ok (.getfield 165, 3) := by decide +kernel
theorem dX2_readStuff_83 : decode cX2_readStuff 83 = .ok (.bipush 6, 2) := by decide +kernel
theorem dX2_readStuff_85 : decode cX2_readStuff 85 = .ok (.imul, 1) := by decide +kernel
theorem dX2_readStuff_86 : decode cX2_readStuff 86 = .ok (.iload_n 1, 1) := by decide +kernel
theorem dX2_readStuff_87 : decode cX2_readStuff 87 = .ok (.iadd, 1) := by decide +kernel
theorem dX2_readStuff_88 : decode cX2_readStuff 88 = .ok (.aload_n 0, 1) := by decide +kernel
theorem dX2_readStuff_89 : decode cX2_readStuff 89 = .ok (.getfield 71, 3) := by decide +kernel
theorem dX2_readStuff_92 : decode cX2_readStuff 92 = .ok (.iastore, 1) := by decide +kernel
theorem dX2_readStuff_93 : decode cX2_readStuff 93 = .ok (.iinc 1 1, 3) := by decide +kernel
theorem dX2_readStuff_96 : decode cX2_readStuff 96 = .ok (.goto (-54), 3) := by decide +kernel
theorem dX2_readStuff_99 : decode cX2_readStuff 99 = .ok (.aload_n 0, 1) := by decide +kernel
theorem dX2_readStuff_100 : decode cX2_readStuff 100 = .ok (.getfield 22, 3) := by decide +kernel
theorem dX2_readStuff_103 : decode cX2_readStuff 103 = .ok (.dup, 1) := by decide +kernel
theorem dX2_readStuff_104 : decode cX2_readStuff 104 = .ok (.getfield 165, 3) := by decide +kernel
theorem dX2_readStuff_107 : decode cX2_readStuff 107 = .ok (.iconst 1, 1) := by decide +kernel
theorem dX2_readStuff_108 : decode cX2_readStuff 108 = .ok (.iadd, 1) := by decide +kernel
theorem dX2_readStuff_109 : decode cX2_readStuff 109 = .ok (.putfield 165, 3) := by decide +kernel
theorem dX2_readStuff_112 : decode cX2_readStuff 112 = .ok (.iconst 1, 1) := by decide +kernel
theorem dX2_readStuff_113 : decode cX2_readStuff 113 = .ok (.ireturn, 1) := by decide +kernel
theorem dX2_readHang_0 : decode cX2_readHang 0 = .ok (.aload_n 0, 1) := by decide +kernel
theorem dX2_readHang_1 : decode cX2_readHang 1 = .ok (.getfield 22, 3) := by decide +kernel
theorem dX2_readHang_4 : decode cX2_readHang 4 = .ok (.getfield 196, 3) := by decide +kernel
theorem dX2_readHang_7 : decode cX2_readHang 7 = .ok (.iload_n 1, 1) := by decide +kernel
theorem dX2_readHang_8 : decode cX2_readHang 8 = .ok (.invokestatic 210, 3) := by decide +kernel
theorem dX2_readHang_11 : decode cX2_readHang 11 = .ok (.istore_n 2, 1) := by decide +kernel
theorem dX2_readHang_12 : decode cX2_readHang 12 = .ok (.iconst 0, 1) := by decide +kernel
theorem dX2_readHang_13 : decode cX2_readHang 13 = .ok (.istore_n 3, 1) := by decide +kernel
theorem dX2_readHang_14 : decode cX2_readHang 14 = .ok (.iload_n 3, 1) := by decide +kernel
theorem dX2_readHang_15 : decode cX2_readHang 15 = .ok (.getstatic 214, 3) := by decide +kernel
theorem dX2_readHang_18 : decode cX2_readHang 18 = .ok (.arraylength, 1) := by decide +kernel
theorem dX2_readHang_19 : decode cX2_readHang 19 = .ok (.if_icmp .ge 43, 3) := by decide +kernel
theorem dX2_readHang_22 : decode cX2_readHang 22 = .ok (.aload_n 0, 1) := by decide +kernel
theorem dX2_readHang_23 : decode cX2_readHang 23 = .ok (.getstatic 214, 3) := by decide +kernel
theorem dX2_readHang_26 : decode cX2_readHang 26 = .ok (.iload_n 3, 1) := by decide +kernel
theorem dX2_readHang_27 : decode cX2_readHang 27 = .ok (.iaload, 1) := by decide +kernel
theorem dX2_readHang_28 : decode cX2_readHang 28 = .ok (.getstatic 217, 3) := by decide +kernel
theorem dX2_readHang_31 : decode cX2_readHang 31 = .ok (.iload_n 3, 1) := by decide +kernel
theorem dX2_readHang_32 : decode cX2_readHang 32 = .ok (.iaload, 1) := by decide +kernel
theorem dX2_readHang_33 : decode cX2_readHang 33 = .ok (.invokevirtual 145, 3) := by decide +kernel
theorem dX2_readHang_36 : decode cX2_readHang 36 = .ok (.ifCond .ne 5, 3) := by decide +kernel
theorem dX2_readHang_39 : decode cX2_readHang 39 = .ok (.iconst 0, 1) := by decide +kernel
theorem dX2_readHang_40 : decode cX2_readHang 40 = .ok (.ireturn, 1) := by decide +kernel
theorem dX2_readHang_41 : decode cX2_readHang 41 = .ok (.aload_n 0, 1) := by decide +kernel
theorem dX2_readHang_42 : decode cX2_readHang 42 = .ok (.getfield 22, 3) := by decide +kernel
theorem dX2_readHang_45 : decode cX2_readHang 45 = .ok (.getfield 220, 3) := by decide +kernel
theorem dX2_readHang_48 : decode cX2_readHang 48 = .ok (.iload_n 2, 1) := by decide +kernel
theorem dX2_readHang_49 : decode cX2_readHang 49 = .ok (.iload_n 3, 1) := by decide +kernel
theorem dX2_readHang_50 : decode cX2_readHang 50 = .ok (.iadd, 1) := by decide +kernel
theorem dX2_readHang_51 : decode cX2_readHang 51 = .ok (.aload_n 0, 1) := by decide +kernel
theorem dX2_readHang_52 : decode cX2_readHang 52 = .ok (.getfield 71, 3) := by decide +kernel
theorem dX2_readHang_55 : decode cX2_readHang 55 = .ok (.iastore, 1) := by decide +kernel
theorem dX2_readHang_56 : decode cX2_readHang 56 = .ok (.iinc 3 1, 3) := by decide +kernel
theorem dX2_readHang_59 : decode cX2_readHang 59 = .ok (.goto (-45), 3) := by decide +kernel
theorem dX2_readHang_62 : decode cX2_readHang 62 = .ok (.iconst 1, 1) := by decide +kernel
theorem dX2_readHang_63 : decode cX2_readHang 63 = .ok (.ireturn, 1) := by decide +kernel
theorem dX8_clear_0 : decode cX8_clear 0 = .ok (.aload_n 0, 1) := by decide +kernel
theorem dX8_clear_1 : decode cX8_clear 1 = .ok (.iconst 0, 1) := by decide +kernel
theorem dX8_clear_2 : decode cX8_clear 2 = .ok (.putfield 21, 3) := by decide +kernel
theorem dX8_clear_5 : decode cX8_clear 5 = .ok (.aload_n 0, 1) := by decide +kernel
theorem dX8_clear_6 : decode cX8_clear 6 = .ok (.iconst 0, 1) := by decide +kernel
theorem dX8_clear_7 : decode cX8_clear 7 = .ok (.putfield 25, 3) := by decide +kernel
theorem dX8_clear_10 : decode cX8_clear 10 = .ok (.aload_n 0, 1) := by decide +kernel
theorem dX8_clear_11 : decode cX8_clear 11 = .ok (.iconst 0, 1) := by decide +kernel
theorem dX8_clear_12 : decode cX8_clear 12 = .ok (.putfield 28, 3) := by decide +kernel
theorem dX8_clear_15 : decode cX8_clear 15 = .ok (.aload_n 0, 1) := by decide +kernel
theorem dX8_clear_16 : decode cX8_clear 16 = .ok (.iconst 0, 1) := by decide +kernel
theorem dX8_clear_17 : decode cX8_clear 17 = .ok (.putfield 31, 3) := by decide +kernel
theorem dX8_clear_20 : decode cX8_clear 20 = .ok (.return_, 1) := by decide +kernel
theorem dX9_add_0 : decode cX9_add 0 = .ok (.aload_n 0, 1) := by decide +kernel
theorem dX9_add_1 : decode cX9_add 1 = .ok (.getfield 22, 3) := by decide +kernel
theorem dX9_add_4 : decode cX9_add 4 = .ok (.sipush 855, 3) := by decide +kernel
theorem dX9_add_7 : decode cX9_add 7 = .ok (.if_icmp .ge 33, 3) := by decide +kernel
theorem dX9_add_10 : decode cX9_add 10 = .ok (.aload_n 0, 1) := by decide +kernel
theorem dX9_add_11 : decode cX9_add 11 = .ok (.getfield 11, 3) := by decide +kernel
theorem dX9_add_14 : decode cX9_add 14 = .ok (.aload_n 0, 1) := by decide +kernel
theorem dX9_add_15 : decode cX9_add 15 = .ok (.getfield 22, 3) := by decide +kernel
theorem dX9_add_18 : decode cX9_add 18 = .ok (.iload_n 1, 1) := by decide +kernel
theorem dX9_add_19 : decode cX9_add 19 = .ok (.iastore, 1) := by decide +kernel
theorem dX9_add_20 : decode cX9_add 20 = .ok (.aload_n 0, 1) := by decide +kernel
theorem dX9_add_21 : decode cX9_add 21 = .ok (.getfield 15, 3) := by decide +kernel
theorem dX9_add_24 : decode cX9_add 24 = .ok (.aload_n 0, 1) := by decide +kernel
theorem dX9_add_25 : decode cX9_add 25 = .ok (.getfield 22, 3) := by decide +kernel
theorem dX9_add_28 : decode cX9_add 28 = .ok (.iload_n 2, 1) := by decide +kernel
theorem dX9_add_29 : decode cX9_add 29 = .ok (.iastore, 1) := by decide +kernel
theorem dX9_add_30 : decode cX9_add 30 = .ok (.aload_n 0, 1) := by decide +kernel
theorem dX9_add_31 : decode cX9_add 31 = .ok (.dup, 1) := by decide +kernel
theorem dX9_add_32 : decode cX9_add 32 = .ok (.getfield 22, 3) := by decide +kernel
theorem dX9_add_35 : decode cX9_add 35 = .ok (.iconst 1, 1) := by decide +kernel
theorem dX9_add_36 : decode cX9_add 36 = .ok (.iadd, 1) := by decide +kernel
theorem dX9_add_37 : decode cX9_add 37 = .ok (.putfield 22, 3) := by decide +kernel
theorem dX9_add_40 : decode cX9_add 40 = .ok (.return_, 1) := by decide +kernel
theorem dX9_spin_0 : decode cX9_spin 0 = .ok (.aload_n 0, 1) := by decide +kernel
theorem dX9_spin_1 : decode cX9_spin 1 = .ok (.aload_n 1, 1) := by decide +kernel
theorem dX9_spin_2 : decode cX9_spin 2 = .ok (.putfield 18, 3) := by decide +kernel
theorem dX9_spin_5 : decode cX9_spin 5 = .ok (.aload_n 0, 1) := by decide +kernel
theorem dX9_spin_6 : decode cX9_spin 6 = .ok (.iconst 0, 1) := by decide +kernel
theorem dX9_spin_7 : decode cX9_spin 7 = .ok (.putfield 22, 3) := by decide +kernel
theorem dX9_spin_10 : decode cX9_spin 10 = .ok (.aload_n 1, 1) := by decide +kernel
theorem dX9_spin_11 : decode cX9_spin 11 = .ok (.getfield 26, 3) := by decide +kernel
theorem dX9_spin_14 : decode cX9_spin 14 = .ok (.bipush 9, 2) := by decide +kernel
theorem dX9_spin_16 : decode cX9_spin 16 = .ok (.imul, 1) := by decide +kernel
theorem dX9_spin_17 : decode cX9_spin 17 = .ok (.istore_n 2, 1) := by decide +kernel
theorem dX9_spin_18 : decode cX9_spin 18 = .ok (.iconst 0, 1) := by decide +kernel
theorem dX9_spin_19 : decode cX9_spin 19 = .ok (.istore_n 3, 1) := by decide +kernel
theorem dX9_spin_20 : decode cX9_spin 20 = .ok (.iload_n 3, 1) := by decide +kernel
theorem dX9_spin_21 : decode cX9_spin 21 = .ok (.iload_n 2, 1) := by decide +kernel
theorem dX9_spin_22 : decode cX9_spin 22 = .ok (.if_icmp .ge 16, 3) := by decide +kernel
theorem dX9_spin_25 : decode cX9_spin 25 = .ok (.aload_n 0, 1) := by decide +kernel
theorem dX9_spin_26 : decode cX9_spin 26 = .ok (.iload_n 3, 1) := by decide +kernel
theorem dX9_spin_27 : decode cX9_spin 27 = .ok (.bipush 45, 2) := by decide +kernel
theorem dX9_spin_29 : decode cX9_spin 29 = .ok (.invokevirtual 31, 3) := by decide +kernel
theorem dX9_spin_32 : decode cX9_spin 32 = .ok (.iinc 3 1, 3) := by decide +kernel
theorem dX9_spin_35 : decode cX9_spin 35 = .ok (.goto (-15), 3) := by decide +kernel
theorem dX9_spin_38 : decode cX9_spin 38 = .ok (.aload_n 1, 1) := by decide +kernel
theorem dX9_spin_39 : decode cX9_spin 39 = .ok (.getfield 35, 3) := by decide +kernel
theorem dX9_spin_42 : decode cX9_spin 42 = .ok (.iconst 2, 1) := by decide +kernel
theorem dX9_spin_43 : decode cX9_spin 43 = .ok (.if_icmp .ge 4, 3) := by decide +kernel
theorem dX9_spin_46 : decode cX9_spin 46 = .ok (.return_, 1) := by decide +kernel
theorem dX9_spin_47 : decode cX9_spin 47 = .ok (.iconst 0, 1) := by decide +kernel
theorem dX9_spin_48 : decode cX9_spin 48 = .ok (.istore_n 3, 1) := by decide +kernel
theorem dX9_spin_49 : decode cX9_spin 49 = .ok (.iload_n 3, 1) := by decide +kernel
theorem dX9_spin_50 : decode cX9_spin 50 = .ok (.iload_n 2, 1) := by decide +kernel
theorem dX9_spin_51 : decode cX9_spin 51 = .ok (.if_icmp .ge 39, 3) := by decide +kernel
theorem dX9_spin_54 : decode cX9_spin 54 = .ok (.iload_n 3, 1) := by decide +kernel
theorem dX9_spin_55 : decode cX9_spin 55 = .ok (.bipush 9, 2) := by decide +kernel
theorem dX9_spin_57 : decode cX9_spin 57 = .ok (.idiv, 1) := by decide +kernel
theorem dX9_spin_58 : decode cX9_spin 58 = .ok (.iconst 1, 1) := by decide +kernel
theorem dX9_spin_59 : decode cX9_spin 59 = .ok (.iadd, 1) := by decide +kernel
theorem dX9_spin_60 : decode cX9_spin 60 = .ok (.bipush 9, 2) := by decide +kernel
theorem dX9_spin_62 : decode cX9_spin 62 = .ok (.imul, 1) := by decide +kernel
theorem dX9_spin_63 : decode cX9_spin 63 = .ok (.istore 4, 2) := by decide +kernel
theorem dX9_spin_65 : decode cX9_spin 65 = .ok (.iload 4, 2) := by decide +kernel
theorem dX9_spin_67 : decode cX9_spin 67 = .ok (.iload_n 2, 1) := by decide +kernel
theorem dX9_spin_68 : decode cX9_spin 68 = .ok (.if_icmp .ge 16, 3) := by decide +kernel
theorem dX9_spin_71 : decode cX9_spin 71 = .ok (.aload_n 0, 1) := by decide +kernel
theorem dX9_spin_72 : decode cX9_spin 72 = .ok (.iload_n 3, 1) := by decide +kernel
theorem dX9_spin_73 : decode cX9_spin 73 = .ok (.iload 4, 2) := by decide +kernel
theorem dX9_spin_75 : decode cX9_spin 75 = .ok (.invokevirtual 31, 3) := by decide +kernel
theorem dX9_spin_78 : decode cX9_spin 78 = .ok (.iinc 4 1, 3) := by decide +kernel
theorem dX9_spin_81 : decode cX9_spin 81 = .ok (.goto (-16), 3) := by decide +kernel
theorem dX9_spin_84 : decode cX9_spin 84 = .ok (.iinc 3 1, 3) := by decide +kernel
theorem dX9_spin_87 : decode cX9_spin 87 = .ok (.goto (-38), 3) := by decide +kernel
theorem dX9_spin_90 : decode cX9_spin 90 = .ok (.return_, 1) := by decide +kernel
theorem dX10_isColour_0 : decode cX10_isColour 0 = .ok (.iload_n 0, 1) := by decide +kernel
theorem dX10_isColour_1 : decode cX10_isColour 1 = .ok (.iconst 0, 1) := by decide +kernel
theorem dX10_isColour_2 : decode cX10_isColour 2 = .ok (.iconst 2, 1) := by decide +kernel
theorem dX10_isColour_3 : decode cX10_isColour 3 = .ok (.invokestatic 133, 3) := by decide +kernel
theorem dX10_isColour_6 : decode cX10_isColour 6 = .ok (.ireturn, 1) := by decide +kernel
theorem dX10_isThread_0 : decode cX10_isThread 0 = .ok (.iload_n 1, 1) := by decide +kernel
theorem dX10_isThread_1 : decode cX10_isThread 1 = .ok (.iconst 0, 1) := by decide +kernel
theorem dX10_isThread_2 : decode cX10_isThread 2 = .ok (.aload_n 0, 1) := by decide +kernel
theorem dX10_isThread_3 : decode cX10_isThread 3 = .ok (.getfield 24, 3) := by decide +kernel
theorem dX10_isThread_6 : decode cX10_isThread 6 = .ok (.getfield 289, 3) := by decide +kernel
theorem dX10_isThread_9 : decode cX10_isThread 9 = .ok (.iconst 1, 1) := by decide +kernel
theorem dX10_isThread_10 : decode cX10_isThread 10 = .ok (.isub, 1) := by decide +kernel
theorem dX10_isThread_11 : decode cX10_isThread 11 = .ok (.invokestatic 133, 3) := by decide +kernel
theorem dX10_isThread_14 : decode cX10_isThread 14 = .ok (.ireturn, 1) := by decide +kernel
theorem dX10_colour_0 : decode cX10_colour 0 = .ok (.aload_n 0, 1) := by decide +kernel
theorem dX10_colour_1 : decode cX10_colour 1 = .ok (.iload_n 1, 1) := by decide +kernel
theorem dX10_colour_2 : decode cX10_colour 2 = .ok (.invokevirtual 183, 3) := by decide +kernel
theorem dX10_colour_5 : decode cX10_colour 5 = .ok (.ifCond .eq 24, 3) := by decide +kernel
theorem dX10_colour_8 : decode cX10_colour 8 = .ok (.iload_n 2, 1) := by decide +kernel
theorem dX10_colour_9 : decode cX10_colour 9 = .ok (.iconst 0, 1) := by decide +kernel
theorem dX10_colour_10 : decode cX10_colour 10 = .ok (.ldc 158, 2) := by decide +kernel
theorem dX10_colour_12 : decode cX10_colour 12 = .ok (.invokestatic 133, 3) := by decide +kernel
theorem dX10_colour_15 : decode cX10_colour 15 = .ok (.ifCond .eq 14, 3) := by decide +kernel
theorem dX10_colour_18 : decode cX10_colour 18 = .ok (.iload_n 3, 1) := by decide +kernel
theorem dX10_colour_19 : decode cX10_colour 19 = .ok (.invokestatic 186, 3) := by decide +kernel
theorem dX10_colour_22 : decode cX10_colour 22 = .ok (.ifCond .eq 7, 3) := by decide +kernel
theorem dX10_colour_25 : decode cX10_colour 25 = .ok (.iconst 1, 1) := by decide +kernel
theorem dX10_colour_26 : decode cX10_colour 26 = .ok (.goto 4, 3) := by decide +kernel
theorem dX10_colour_29 : decode cX10_colour 29 = .ok (.iconst 0, 1) := by decide +kernel
theorem dX10_colour_30 : decode cX10_colour 30 = .ok (.istore 4, 2) := by decide +kernel
theorem dX10_colour_32 : decode cX10_colour 32 = .ok (.iload 4, 2) := by decide +kernel
theorem dX10_colour_34 : decode cX10_colour 34 = .ok (.ifCond .eq 16, 3) := by decide +kernel
theorem dX10_colour_37 : decode cX10_colour 37 = .ok (.aload_n 0, 1) := by decide +kernel
theorem dX10_colour_38 : decode cX10_colour 38 = .ok (.getfield 24, 3) := by decide +kernel
theorem dX10_colour_41 : decode cX10_colour 41 = .ok (.iload_n 1, 1) := by decide +kernel
theorem dX10_colour_42 : decode cX10_colour 42 = .ok (.iload_n 2, 1) := by decide +kernel
theorem dX10_colour_43 : decode cX10_colour 43 = .ok (.iload_n 3, 1) := by decide +kernel
theorem dX10_colour_44 : decode cX10_colour 44 = .ok (.invokevirtual 189, 3) := by decide +kernel
theorem dX10_colour_47 : decode cX10_colour 47 = .ok (.goto 5, 3) := by decide +kernel
theorem dX10_colour_50 : decode cX10_colour 50 = .ok (.bipush (-2), 2) := by decide +kernel
theorem dX10_colour_52 : decode cX10_colour 52 = .ok (.ireturn, 1) := by decide +kernel
theorem dX10_commonDivisor_0 : decode cX10_commonDivisor 0 = .ok (.iload_n 0, 1) := by decide +kernel
theorem dX10_commonDivisor_1 : decode cX10_commonDivisor 1 = .ok (.istore_n 2, 1) := by decide +kernel
theorem dX10_commonDivisor_2 : decode cX10_commonDivisor 2 = .ok (.iload_n 1, 1) := by decide +kernel
theorem dX10_commonDivisor_3 : decode cX10_commonDivisor 3 = .ok (.istore_n 3, 1) := by decide +kernel
theorem dX10_commonDivisor_4 : decode cX10_commonDivisor 4 = .ok (.iconst 0, 1) := by decide +kernel
theorem dX10_commonDivisor_5 : decode cX10_commonDivisor 5 = .ok (.istore 4, 2) := by decide +kernel
theorem dX10_commonDivisor_7 : decode cX10_commonDivisor 7 = .ok (.iload 4, 2) := by decide +kernel
theorem dX10_commonDivisor_9 : decode cX10_commonDivisor 9 = .ok (.bipush 64, 2) := by decide +kernel
theorem dX10_commonDivisor_11 : decode cX10_commonDivisor 11 = .ok (.if_icmp .ge 23, 3) := by decide +kernel
theorem dX10_commonDivisor_14 : decode cX10_commonDivisor 14 = .ok (.iload_n 3, 1) := by decide +kernel
theorem dX10_commonDivisor_15 : decode cX10_commonDivisor 15 = .ok (.ifCond .le 19, 3) := by decide +kernel
theorem dX10_commonDivisor_18 : decode cX10_commonDivisor 18 = .ok (.iload_n 2, 1) := by decide +kernel
theorem dX10_commonDivisor_19 : decode cX10_commonDivisor 19 = .ok (.iload_n 3, 1) := by decide +kernel
theorem dX10_commonDivisor_20 : decode cX10_commonDivisor 20 = .ok (.irem, 1) := by decide +kernel
theorem dX10_commonDivisor_21 : decode cX10_commonDivisor 21 = .ok (.istore 5, 2) := by decide +kernel
theorem dX10_commonDivisor_23 : decode cX10_commonDivisor 23 = .ok (.iload_n 3, 1) := by decide +kernel
theorem dX10_commonDivisor_24 : decode cX10_commonDivisor 24 = .ok (.istore_n 2, 1) := by decide +kernel
theorem dX10_commonDivisor_25 : decode cX10_commonDivisor 25 = .ok (.iload 5, 2) := by decide +kernel
theorem dX10_commonDivisor_27 : decode cX10_commonDivisor 27 = .ok (.istore_n 3, 1) := by decide +kernel
theorem dX10_commonDivisor_28 : decode cX10_commonDivisor 28 = .ok (.iinc 4 1, 3) := by decide +kernel
theorem dX10_commonDivisor_31 : decode cX10_commonDivisor 31 = .ok (.goto (-24), 3) := by decide +kernel
theorem dX10_commonDivisor_34 : decode cX10_commonDivisor 34 = .ok (.iconst 1, 1) := by decide +kernel
theorem dX10_commonDivisor_35 : decode cX10_commonDivisor 35 = .ok (.iload_n 2, 1) := by decide +kernel
theorem dX10_commonDivisor_36 : decode cX10_commonDivisor 36 = .ok (.invokestatic 369, 3) := by decide +kernel
theorem dX10_commonDivisor_39 : decode cX10_commonDivisor 39 = .ok (.ireturn, 1) := by decide +kernel
theorem dX10_count_0 : decode cX10_count 0 = .ok (.iload_n 1, 1) := by decide +kernel
theorem dX10_count_1 : decode cX10_count 1 = .ok (.tableswitch 90 0 5 #[39, 50, 58, 66, 74, 82], 39) := by decide +kernel
theorem dX10_count_40 : decode cX10_count 40 = .ok (.aload_n 0, 1) := by decide +kernel
theorem dX10_count_41 : decode cX10_count 41 = .ok (.getfield 24, 3) := by decide +kernel
theorem dX10_count_44 : decode cX10_count 44 = .ok (.getfield 110, 3) := by decide +kernel
theorem dX10_count_47 : decode cX10_count 47 = .ok (.getfield 100, 3) := by decide +kernel
theorem dX10_count_50 : decode cX10_count 50 = .ok (.ireturn, 1) := by decide +kernel
theorem dX10_count_51 : decode cX10_count 51 = .ok (.aload_n 0, 1) := by decide +kernel
theorem dX10_count_52 : decode cX10_count 52 = .ok (.getfield 44, 3) := by decide +kernel
theorem dX10_count_55 : decode cX10_count 55 = .ok (.getfield 202, 3) := by decide +kernel
theorem dX10_count_58 : decode cX10_count 58 = .ok (.ireturn, 1) := by decide +kernel
theorem dX10_count_59 : decode cX10_count 59 = .ok (.aload_n 0, 1) := by decide +kernel
theorem dX10_count_60 : decode cX10_count 60 = .ok (.getfield 44, 3) := by decide +kernel
theorem dX10_count_63 : decode cX10_count 63 = .ok (.getfield 209, 3) := by decide +kernel
theorem dX10_count_66 : decode cX10_count 66 = .ok (.ireturn, 1) := by decide +kernel
theorem dX10_count_67 : decode cX10_count 67 = .ok (.aload_n 0, 1) := by decide +kernel
theorem dX10_count_68 : decode cX10_count 68 = .ok (.getfield 44, 3) := by decide +kernel
theorem dX10_count_71 : decode cX10_count 71 = .ok (.getfield 215, 3) := by decide +kernel
theorem dX10_count_74 : decode cX10_count 74 = .ok (.ireturn, 1) := by decide +kernel
theorem dX10_count_75 : decode cX10_count 75 = .ok (.aload_n 0, 1) := by decide +kernel
theorem dX10_count_76 : decode cX10_count 76 = .ok (.getfield 24, 3) := by decide +kernel
theorem dX10_count_79 : decode cX10_count 79 = .ok (.getfield 289, 3) := by decide +kernel
theorem dX10_count_82 : decode cX10_count 82 = .ok (.ireturn, 1) := by decide +kernel
theorem dX10_count_83 : decode cX10_count 83 = .ok (.aload_n 0, 1) := by decide +kernel
theorem dX10_count_84 : decode cX10_count 84 = .ok (.getfield 10, 3) := by decide +kernel
theorem dX10_count_87 : decode cX10_count 87 = .ok (.getfield 89, 3) := by decide +kernel
theorem dX10_count_90 : decode cX10_count 90 = .ok (.ireturn, 1) := by decide +kernel
theorem dX10_count_91 : decode cX10_count 91 = .ok (.iconst (-1), 1) := by decide +kernel
theorem dX10_count_92 : decode cX10_count 92 = .ok (.ireturn, 1) := by decide +kernel
theorem dX9_numberOf_0 : decode cX9_numberOf 0 = .ok (.iconst 0, 1) := by decide +kernel
theorem dX9_numberOf_1 : decode cX9_numberOf 1 = .ok (.istore_n 3, 1) := by decide +kernel
theorem dX9_numberOf_2 : decode cX9_numberOf 2 = .ok (.iload_n 3, 1) := by decide +kernel
theorem dX9_numberOf_3 : decode cX9_numberOf 3 = .ok (.aload_n 0, 1) := by decide +kernel
theorem dX9_numberOf_4 : decode cX9_numberOf 4 = .ok (.getfield 22, 3) := by decide +kernel
theorem dX9_numberOf_7 : decode cX9_numberOf 7 = .ok (.if_icmp .ge 31, 3) := by decide +kernel
theorem dX9_numberOf_10 : decode cX9_numberOf 10 = .ok (.aload_n 0, 1) := by decide +kernel
theorem dX9_numberOf_11 : decode cX9_numberOf 11 = .ok (.getfield 11, 3) := by decide +kernel
theorem dX9_numberOf_14 : decode cX9_numberOf 14 = .ok (.iload_n 3, 1) := by decide +kernel
theorem dX9_numberOf_15 : decode cX9_numberOf 15 = .ok (.iaload, 1) := by decide +kernel
theorem dX9_numberOf_16 : decode cX9_numberOf 16 = .ok (.iload_n 1, 1) := by decide +kernel
theorem dX9_numberOf_17 : decode cX9_numberOf 17 = .ok (.if_icmp .ne 15, 3) := by decide +kernel
theorem dX9_numberOf_20 : decode cX9_numberOf 20 = .ok (.aload_n 0, 1) := by decide +kernel
theorem dX9_numberOf_21 : decode cX9_numberOf 21 = .ok (.getfield 15, 3) := by decide +kernel
theorem dX9_numberOf_24 : decode cX9_numberOf 24 = .ok (.iload_n 3, 1) := by decide +kernel
theorem dX9_numberOf_25 : decode cX9_numberOf 25 = .ok (.iaload, 1) := by decide +kernel
theorem dX9_numberOf_26 : decode cX9_numberOf 26 = .ok (.iload_n 2, 1) := by decide +kernel
theorem dX9_numberOf_27 : decode cX9_numberOf 27 = .ok (.if_icmp .ne 5, 3) := by decide +kernel
theorem dX9_numberOf_30 : decode cX9_numberOf 30 = .ok (.iload_n 3, 1) := by decide +kernel
theorem dX9_numberOf_31 : decode cX9_numberOf 31 = .ok (.ireturn, 1) := by decide +kernel
theorem dX9_numberOf_32 : decode cX9_numberOf 32 = .ok (.iinc 3 1, 3) := by decide +kernel
theorem dX9_numberOf_35 : decode cX9_numberOf 35 = .ok (.goto (-33), 3) := by decide +kernel
theorem dX9_numberOf_38 : decode cX9_numberOf 38 = .ok (.bipush (-2), 2) := by decide +kernel
theorem dX9_numberOf_40 : decode cX9_numberOf 40 = .ok (.ireturn, 1) := by decide +kernel
theorem dX10_drawThread_0 : decode cX10_drawThread 0 = .ok (.aload_n 0, 1) := by decide +kernel
theorem dX10_drawThread_1 : decode cX10_drawThread 1 = .ok (.getfield 24, 3) := by decide +kernel
theorem dX10_drawThread_4 : decode cX10_drawThread 4 = .ok (.getfield 110, 3) := by decide +kernel
theorem dX10_drawThread_7 : decode cX10_drawThread 7 = .ok (.getfield 155, 3) := by decide +kernel
theorem dX10_drawThread_10 : decode cX10_drawThread 10 = .ok (.istore_n 1, 1) := by decide +kernel
theorem dX10_drawThread_11 : decode cX10_drawThread 11 = .ok (.aload_n 0, 1) := by decide +kernel
theorem dX10_drawThread_12 : decode cX10_drawThread 12 = .ok (.getfield 81, 3) := by decide +kernel
theorem dX10_drawThread_15 : decode cX10_drawThread 15 = .ok (.iload_n 1, 1) := by decide +kernel
theorem dX10_drawThread_16 : decode cX10_drawThread 16 = .ok (.invokevirtual 348, 3) := by decide +kernel
theorem dX10_drawThread_19 : decode cX10_drawThread 19 = .ok (.istore_n 2, 1) := by decide +kernel
theorem dX10_drawThread_20 : decode cX10_drawThread 20 = .ok (.iload_n 2, 1) := by decide +kernel
theorem dX10_drawThread_21 : decode cX10_drawThread 21 = .ok (.aload_n 0, 1) := by decide +kernel
theorem dX10_drawThread_22 : decode cX10_drawThread 22 = .ok (.getfield 81, 3) := by decide +kernel
theorem dX10_drawThread_25 : decode cX10_drawThread 25 = .ok (.bipush 9, 2) := by decide +kernel
theorem dX10_drawThread_27 : decode cX10_drawThread 27 = .ok (.invokevirtual 348, 3) := by decide +kernel
theorem dX10_drawThread_30 : decode cX10_drawThread 30 = .ok (.iconst 1, 1) := by decide +kernel
theorem dX10_drawThread_31 : decode cX10_drawThread 31 = .ok (.iadd, 1) := by decide +kernel
theorem dX10_drawThread_32 : decode cX10_drawThread 32 = .ok (.invokestatic 177, 3) := by decide +kernel
theorem dX10_drawThread_35 : decode cX10_drawThread 35 = .ok (.istore_n 3, 1) := by decide +kernel
theorem dX10_drawThread_36 : decode cX10_drawThread 36 = .ok (.aload_n 0, 1) := by decide +kernel
theorem dX10_drawThread_37 : decode cX10_drawThread 37 = .ok (.getfield 81, 3) := by decide +kernel
theorem dX10_drawThread_40 : decode cX10_drawThread 40 = .ok (.iconst 3, 1) := by decide +kernel
theorem dX10_drawThread_41 : decode cX10_drawThread 41 = .ok (.invokevirtual 348, 3) := by decide +kernel
theorem dX10_drawThread_44 : decode cX10_drawThread 44 = .ok (.ifCond .ne 26, 3) := by decide +kernel
theorem dX10_drawThread_47 : decode cX10_drawThread 47 = .ok (.iload_n 1, 1) := by decide +kernel
theorem dX10_drawThread_48 : decode cX10_drawThread 48 = .ok (.iconst 1, 1) := by decide +kernel
theorem dX10_drawThread_49 : decode cX10_drawThread 49 = .ok (.if_icmp .le 21, 3) := by decide +kernel
theorem dX10_drawThread_52 : decode cX10_drawThread 52 = .ok (.aload_n 0, 1) := by decide +kernel
theorem dX10_drawThread_53 : decode cX10_drawThread 53 = .ok (.getfield 24, 3) := by decide +kernel
theorem dX10_drawThread_56 : decode cX10_drawThread 56 = .ok (.getfield 110, 3) := by decide +kernel
theorem dX10_drawThread_59 : decode cX10_drawThread 59 = .ok (.getfield 382, 3) := by decide +kernel
theorem dX10_drawThread_62 : decode cX10_drawThread 62 = .ok (.iconst 2, 1) := by decide +kernel
theorem dX10_drawThread_63 : decode cX10_drawThread 63 = .ok (.if_icmp .ne 7, 3) := by decide +kernel
theorem dX10_drawThread_66 : decode cX10_drawThread 66 = .ok (.iconst 1, 1) := by decide +kernel
theorem dX10_drawThread_67 : decode cX10_drawThread 67 = .ok (.goto 4, 3) := by decide +kernel
theorem dX10_drawThread_70 : decode cX10_drawThread 70 = .ok (.iconst 0, 1) := by decide +kernel
theorem dX10_drawThread_71 : decode cX10_drawThread 71 = .ok (.istore 4, 2) := by decide +kernel
theorem dX10_drawThread_73 : decode cX10_drawThread 73 = .ok (.iload 4, 2) := by decide +kernel
theorem dX10_drawThread_75 : decode cX10_drawThread 75 = .ok (.ifCond .ne 14, 3) := by decide +kernel
theorem dX10_drawThread_78 : decode cX10_drawThread 78 = .ok (.aload_n 0, 1) := by decide +kernel
theorem dX10_drawThread_79 : decode cX10_drawThread 79 = .ok (.getfield 24, 3) := by decide +kernel
theorem dX10_drawThread_82 : decode cX10_drawThread 82 = .ok (.iload_n 3, 1) := by decide +kernel
theorem dX10_drawThread_83 : decode cX10_drawThread 83 = .ok (.bipush 45, 2) := by decide +kernel
theorem dX10_drawThread_85 : decode cX10_drawThread 85 = .ok (.invokevirtual 180, 3) := by decide +kernel
theorem dX10_drawThread_88 : decode cX10_drawThread 88 = .ok (.ireturn, 1) := by decide +kernel
theorem dX10_drawThread_89 : decode cX10_drawThread 89 = .ok (.aload_n 0, 1) := by decide +kernel
theorem dX10_drawThread_90 : decode cX10_drawThread 90 = .ok (.getfield 81, 3) := by decide +kernel
theorem dX10_drawThread_93 : decode cX10_drawThread 93 = .ok (.iload_n 1, 1) := by decide +kernel
theorem dX10_drawThread_94 : decode cX10_drawThread 94 = .ok (.iconst 1, 1) := by decide +kernel
theorem dX10_drawThread_95 : decode cX10_drawThread 95 = .ok (.isub, 1) := by decide +kernel
theorem dX10_drawThread_96 : decode cX10_drawThread 96 = .ok (.invokevirtual 348, 3) := by decide +kernel
theorem dX10_drawThread_99 : decode cX10_drawThread 99 = .ok (.istore 5, 2) := by decide +kernel
theorem dX10_drawThread_101 : decode cX10_drawThread 101 = .ok (.iload 5, 2) := by decide +kernel
theorem dX10_drawThread_103 : decode cX10_drawThread 103 = .ok (.iload 5, 2) := by decide +kernel
theorem dX10_drawThread_105 : decode cX10_drawThread 105 = .ok (.iload_n 2, 1) := by decide +kernel
theorem dX10_drawThread_106 : decode cX10_drawThread 106 = .ok (.if_icmp .lt 7, 3) := by decide +kernel
theorem dX10_drawThread_109 : decode cX10_drawThread 109 = .ok (.iconst 1, 1) := by decide +kernel
theorem dX10_drawThread_110 : decode cX10_drawThread 110 = .ok (.goto 4, 3) := by decide +kernel
theorem dX10_drawThread_113 : decode cX10_drawThread 113 = .ok (.iconst 0, 1) := by decide +kernel
theorem dX10_drawThread_114 : decode cX10_drawThread 114 = .ok (.iadd, 1) := by decide +kernel
