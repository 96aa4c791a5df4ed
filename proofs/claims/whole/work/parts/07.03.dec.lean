theorem dX10_told_37 : decode cX10_told 37 = .ok (.getfield 137, 3) := by decide +kernel
theorem dX10_told_40 : decode cX10_told 40 = .ok (.iload_n 1, 1) := by decide +kernel
theorem dX10_told_41 : decode cX10_told 41 = .ok (.bipush 10, 2) := by decide +kernel
theorem dX10_told_43 : decode cX10_told 43 = .ok (.isub, 1) := by decide +kernel
theorem dX10_told_44 : decode cX10_told 44 = .ok (.iaload, 1) := by decide +kernel
theorem dX10_told_45 : decode cX10_told 45 = .ok (.ireturn, 1) := by decide +kernel
theorem dX10_told_46 : decode cX10_told 46 = .ok (.iload_n 1, 1) := by decide +kernel
theorem dX10_told_47 : decode cX10_told 47 = .ok (.bipush 20, 2) := by decide +kernel
theorem dX10_told_49 : decode cX10_told 49 = .ok (.isub, 1) := by decide +kernel
theorem dX10_told_50 : decode cX10_told 50 = .ok (.iconst 0, 1) := by decide +kernel
theorem dX10_told_51 : decode cX10_told 51 = .ok (.aload_n 2, 1) := by decide +kernel
theorem dX10_told_52 : decode cX10_told 52 = .ok (.getfield 140, 3) := by decide +kernel
theorem dX10_told_55 : decode cX10_told 55 = .ok (.iconst 1, 1) := by decide +kernel
theorem dX10_told_56 : decode cX10_told 56 = .ok (.isub, 1) := by decide +kernel
theorem dX10_told_57 : decode cX10_told 57 = .ok (.invokestatic 133, 3) := by decide +kernel
theorem dX10_told_60 : decode cX10_told 60 = .ok (.ifCond .eq 13, 3) := by decide +kernel
theorem dX10_told_63 : decode cX10_told 63 = .ok (.aload_n 2, 1) := by decide +kernel
theorem dX10_told_64 : decode cX10_told 64 = .ok (.getfield 143, 3) := by decide +kernel
theorem dX10_told_67 : decode cX10_told 67 = .ok (.iload_n 1, 1) := by decide +kernel
theorem dX10_told_68 : decode cX10_told 68 = .ok (.bipush 20, 2) := by decide +kernel
theorem dX10_told_70 : decode cX10_told 70 = .ok (.isub, 1) := by decide +kernel
theorem dX10_told_71 : decode cX10_told 71 = .ok (.iaload, 1) := by decide +kernel
theorem dX10_told_72 : decode cX10_told 72 = .ok (.ireturn, 1) := by decide +kernel
theorem dX10_told_73 : decode cX10_told 73 = .ok (.iload_n 1, 1) := by decide +kernel
theorem dX10_told_74 : decode cX10_told 74 = .ok (.bipush 30, 2) := by decide +kernel
theorem dX10_told_76 : decode cX10_told 76 = .ok (.isub, 1) := by decide +kernel
theorem dX10_told_77 : decode cX10_told 77 = .ok (.iconst 0, 1) := by decide +kernel
theorem dX10_told_78 : decode cX10_told 78 = .ok (.aload_n 2, 1) := by decide +kernel
theorem dX10_told_79 : decode cX10_told 79 = .ok (.getfield 146, 3) := by decide +kernel
theorem dX10_told_82 : decode cX10_told 82 = .ok (.iconst 1, 1) := by decide +kernel
theorem dX10_told_83 : decode cX10_told 83 = .ok (.isub, 1) := by decide +kernel
theorem dX10_told_84 : decode cX10_told 84 = .ok (.invokestatic 133, 3) := by decide +kernel
theorem dX10_told_87 : decode cX10_told 87 = .ok (.ifCond .eq 13, 3) := by decide +kernel
theorem dX10_told_90 : decode cX10_told 90 = .ok (.aload_n 2, 1) := by decide +kernel
theorem dX10_told_91 : decode cX10_told 91 = .ok (.getfield 149, 3) := by decide +kernel
theorem dX10_told_94 : decode cX10_told 94 = .ok (.iload_n 1, 1) := by decide +kernel
theorem dX10_told_95 : decode cX10_told 95 = .ok (.bipush 30, 2) := by decide +kernel
theorem dX10_told_97 : decode cX10_told 97 = .ok (.isub, 1) := by decide +kernel
theorem dX10_told_98 : decode cX10_told 98 = .ok (.iaload, 1) := by decide +kernel
theorem dX10_told_99 : decode cX10_told 99 = .ok (.ireturn, 1) := by decide +kernel
theorem dX10_told_100 : decode cX10_told 100 = .ok (.iload_n 1, 1) := by decide +kernel
theorem dX10_told_101 : decode cX10_told 101 = .ok (.bipush 40, 2) := by decide +kernel
theorem dX10_told_103 : decode cX10_told 103 = .ok (.isub, 1) := by decide +kernel
theorem dX10_told_104 : decode cX10_told 104 = .ok (.iconst 0, 1) := by decide +kernel
theorem dX10_told_105 : decode cX10_told 105 = .ok (.aload_n 2, 1) := by decide +kernel
theorem dX10_told_106 : decode cX10_told 106 = .ok (.getfield 146, 3) := by decide +kernel
theorem dX10_told_109 : decode cX10_told 109 = .ok (.iconst 1, 1) := by decide +kernel
theorem dX10_told_110 : decode cX10_told 110 = .ok (.isub, 1) := by decide +kernel
theorem dX10_told_111 : decode cX10_told 111 = .ok (.invokestatic 133, 3) := by decide +kernel
theorem dX10_told_114 : decode cX10_told 114 = .ok (.ifCond .eq 12, 3) := by decide +kernel
theorem dX10_told_117 : decode cX10_told 117 = .ok (.aload_n 2, 1) := by decide +kernel
theorem dX10_told_118 : decode cX10_told 118 = .ok (.iload_n 1, 1) := by decide +kernel
theorem dX10_told_119 : decode cX10_told 119 = .ok (.bipush 40, 2) := by decide +kernel
theorem dX10_told_121 : decode cX10_told 121 = .ok (.isub, 1) := by decide +kernel
theorem dX10_told_122 : decode cX10_told 122 = .ok (.invokevirtual 152, 3) := by decide +kernel
theorem dX10_told_125 : decode cX10_told 125 = .ok (.ireturn, 1) := by decide +kernel
theorem dX10_told_126 : decode cX10_told 126 = .ok (.iconst (-1), 1) := by decide +kernel
theorem dX10_told_127 : decode cX10_told 127 = .ok (.ireturn, 1) := by decide +kernel
theorem dX10_vat_0 : decode cX10_vat 0 = .ok (.aload_n 0, 1) := by decide +kernel
theorem dX10_vat_1 : decode cX10_vat 1 = .ok (.iload_n 1, 1) := by decide +kernel
theorem dX10_vat_2 : decode cX10_vat 2 = .ok (.iload_n 3, 1) := by decide +kernel
theorem dX10_vat_3 : decode cX10_vat 3 = .ok (.iload 4, 2) := by decide +kernel
theorem dX10_vat_5 : decode cX10_vat 5 = .ok (.invokevirtual 238, 3) := by decide +kernel
theorem dX10_vat_8 : decode cX10_vat 8 = .ok (.ifCond .eq 16, 3) := by decide +kernel
theorem dX10_vat_11 : decode cX10_vat 11 = .ok (.aload_n 0, 1) := by decide +kernel
theorem dX10_vat_12 : decode cX10_vat 12 = .ok (.iload_n 2, 1) := by decide +kernel
theorem dX10_vat_13 : decode cX10_vat 13 = .ok (.invokevirtual 196, 3) := by decide +kernel
theorem dX10_vat_16 : decode cX10_vat 16 = .ok (.ifCond .eq 8, 3) := by decide +kernel
theorem dX10_vat_19 : decode cX10_vat 19 = .ok (.iload_n 1, 1) := by decide +kernel
theorem dX10_vat_20 : decode cX10_vat 20 = .ok (.iload_n 2, 1) := by decide +kernel
theorem dX10_vat_21 : decode cX10_vat 21 = .ok (.if_icmp .ne 6, 3) := by decide +kernel
theorem dX10_vat_24 : decode cX10_vat 24 = .ok (.bipush (-2), 2) := by decide +kernel
theorem dX10_vat_26 : decode cX10_vat 26 = .ok (.ireturn, 1) := by decide +kernel
theorem dX10_vat_27 : decode cX10_vat 27 = .ok (.aload_n 0, 1) := by decide +kernel
theorem dX10_vat_28 : decode cX10_vat 28 = .ok (.getfield 57, 3) := by decide +kernel
theorem dX10_vat_31 : decode cX10_vat 31 = .ok (.iload_n 1, 1) := by decide +kernel
theorem dX10_vat_32 : decode cX10_vat 32 = .ok (.iload_n 3, 1) := by decide +kernel
theorem dX10_vat_33 : decode cX10_vat 33 = .ok (.iload 4, 2) := by decide +kernel
theorem dX10_vat_35 : decode cX10_vat 35 = .ok (.invokevirtual 241, 3) := by decide +kernel
theorem dX10_vat_38 : decode cX10_vat 38 = .ok (.aload_n 0, 1) := by decide +kernel
theorem dX10_vat_39 : decode cX10_vat 39 = .ok (.getfield 61, 3) := by decide +kernel
theorem dX10_vat_42 : decode cX10_vat 42 = .ok (.iload_n 2, 1) := by decide +kernel
theorem dX10_vat_43 : decode cX10_vat 43 = .ok (.iload_n 3, 1) := by decide +kernel
theorem dX10_vat_44 : decode cX10_vat 44 = .ok (.iload 4, 2) := by decide +kernel
theorem dX10_vat_46 : decode cX10_vat 46 = .ok (.invokevirtual 241, 3) := by decide +kernel
theorem dX10_vat_49 : decode cX10_vat 49 = .ok (.iconst 0, 1) := by decide +kernel
theorem dX10_vat_50 : decode cX10_vat 50 = .ok (.istore 6, 2) := by decide +kernel
theorem dX10_vat_52 : decode cX10_vat 52 = .ok (.iconst 0, 1) := by decide +kernel
theorem dX10_vat_53 : decode cX10_vat 53 = .ok (.istore 7, 2) := by decide +kernel
theorem dX10_vat_55 : decode cX10_vat 55 = .ok (.iconst 0, 1) := by decide +kernel
theorem dX10_vat_56 : decode cX10_vat 56 = .ok (.istore 8, 2) := by decide +kernel
theorem dX10_vat_58 : decode cX10_vat 58 = .ok (.iload 8, 2) := by decide +kernel
theorem dX10_vat_60 : decode cX10_vat 60 = .ok (.aload_n 0, 1) := by decide +kernel
theorem dX10_vat_61 : decode cX10_vat 61 = .ok (.getfield 24, 3) := by decide +kernel
theorem dX10_vat_64 : decode cX10_vat 64 = .ok (.getfield 289, 3) := by decide +kernel
theorem dX10_vat_67 : decode cX10_vat 67 = .ok (.if_icmp .ge 89, 3) := by decide +kernel
theorem dX10_vat_70 : decode cX10_vat 70 = .ok (.aload_n 0, 1) := by decide +kernel
theorem dX10_vat_71 : decode cX10_vat 71 = .ok (.getfield 57, 3) := by decide +kernel
theorem dX10_vat_74 : decode cX10_vat 74 = .ok (.getfield 290, 3) := by decide +kernel
theorem dX10_vat_77 : decode cX10_vat 77 = .ok (.iload 8, 2) := by decide +kernel
theorem dX10_vat_79 : decode cX10_vat 79 = .ok (.iaload, 1) := by decide +kernel
theorem dX10_vat_80 : decode cX10_vat 80 = .ok (.ifCond .eq 7, 3) := by decide +kernel
theorem dX10_vat_83 : decode cX10_vat 83 = .ok (.iconst 1, 1) := by decide +kernel
theorem dX10_vat_84 : decode cX10_vat 84 = .ok (.goto 4, 3) := by decide +kernel
theorem dX10_vat_87 : decode cX10_vat 87 = .ok (.iconst 0, 1) := by decide +kernel
theorem dX10_vat_88 : decode cX10_vat 88 = .ok (.istore 9, 2) := by decide +kernel
theorem dX10_vat_90 : decode cX10_vat 90 = .ok (.aload_n 0, 1) := by decide +kernel
theorem dX10_vat_91 : decode cX10_vat 91 = .ok (.getfield 61, 3) := by decide +kernel
theorem dX10_vat_94 : decode cX10_vat 94 = .ok (.getfield 290, 3) := by decide +kernel
theorem dX10_vat_97 : decode cX10_vat 97 = .ok (.iload 8, 2) := by decide +kernel
theorem dX10_vat_99 : decode cX10_vat 99 = .ok (.iaload, 1) := by decide +kernel
theorem dX10_vat_100 : decode cX10_vat 100 = .ok (.ifCond .eq 7, 3) := by decide +kernel
theorem dX10_vat_103 : decode cX10_vat 103 = .ok (.iconst 1, 1) := by decide +kernel
theorem dX10_vat_104 : decode cX10_vat 104 = .ok (.goto 4, 3) := by decide +kernel
theorem dX10_vat_107 : decode cX10_vat 107 = .ok (.iconst 0, 1) := by decide +kernel
theorem dX10_vat_108 : decode cX10_vat 108 = .ok (.istore 10, 2) := by decide +kernel
theorem dX10_vat_110 : decode cX10_vat 110 = .ok (.iload 6, 2) := by decide +kernel
theorem dX10_vat_112 : decode cX10_vat 112 = .ok (.iload 9, 2) := by decide +kernel
theorem dX10_vat_114 : decode cX10_vat 114 = .ok (.ifCond .eq 12, 3) := by decide +kernel
theorem dX10_vat_117 : decode cX10_vat 117 = .ok (.iload 10, 2) := by decide +kernel
theorem dX10_vat_119 : decode cX10_vat 119 = .ok (.ifCond .eq 7, 3) := by decide +kernel
theorem dX10_vat_122 : decode cX10_vat 122 = .ok (.iconst 1, 1) := by decide +kernel
theorem dX10_vat_123 : decode cX10_vat 123 = .ok (.goto 4, 3) := by decide +kernel
theorem dX10_vat_126 : decode cX10_vat 126 = .ok (.iconst 0, 1) := by decide +kernel
theorem dX10_vat_127 : decode cX10_vat 127 = .ok (.iadd, 1) := by decide +kernel
theorem dX10_vat_128 : decode cX10_vat 128 = .ok (.istore 6, 2) := by decide +kernel
theorem dX10_vat_130 : decode cX10_vat 130 = .ok (.iload 7, 2) := by decide +kernel
theorem dX10_vat_132 : decode cX10_vat 132 = .ok (.iload 9, 2) := by decide +kernel
theorem dX10_vat_134 : decode cX10_vat 134 = .ok (.ifCond .ne 8, 3) := by decide +kernel
theorem dX10_vat_137 : decode cX10_vat 137 = .ok (.iload 10, 2) := by decide +kernel
theorem dX10_vat_139 : decode cX10_vat 139 = .ok (.ifCond .eq 7, 3) := by decide +kernel
theorem dX10_vat_142 : decode cX10_vat 142 = .ok (.iconst 1, 1) := by decide +kernel
theorem dX10_vat_143 : decode cX10_vat 143 = .ok (.goto 4, 3) := by decide +kernel
theorem dX10_vat_146 : decode cX10_vat 146 = .ok (.iconst 0, 1) := by decide +kernel
theorem dX10_vat_147 : decode cX10_vat 147 = .ok (.iadd, 1) := by decide +kernel
theorem dX10_vat_148 : decode cX10_vat 148 = .ok (.istore 7, 2) := by decide +kernel
theorem dX10_vat_150 : decode cX10_vat 150 = .ok (.iinc 8 1, 3) := by decide +kernel
theorem dX10_vat_153 : decode cX10_vat 153 = .ok (.goto (-95), 3) := by decide +kernel
theorem dX10_vat_156 : decode cX10_vat 156 = .ok (.iload 6, 2) := by decide +kernel
theorem dX10_vat_158 : decode cX10_vat 158 = .ok (.ifCond .ne 14, 3) := by decide +kernel
theorem dX10_vat_161 : decode cX10_vat 161 = .ok (.iload 5, 2) := by decide +kernel
theorem dX10_vat_163 : decode cX10_vat 163 = .ok (.ifCond .eq 7, 3) := by decide +kernel
theorem dX10_vat_166 : decode cX10_vat 166 = .ok (.iconst 1, 1) := by decide +kernel
theorem dX10_vat_167 : decode cX10_vat 167 = .ok (.goto 4, 3) := by decide +kernel
theorem dX10_vat_170 : decode cX10_vat 170 = .ok (.iconst 0, 1) := by decide +kernel
theorem dX10_vat_171 : decode cX10_vat 171 = .ok (.ireturn, 1) := by decide +kernel
theorem dX10_vat_172 : decode cX10_vat 172 = .ok (.iload 6, 2) := by decide +kernel
theorem dX10_vat_174 : decode cX10_vat 174 = .ok (.iload 7, 2) := by decide +kernel
theorem dX10_vat_176 : decode cX10_vat 176 = .ok (.invokestatic 293, 3) := by decide +kernel
theorem dX10_vat_179 : decode cX10_vat 179 = .ok (.istore 8, 2) := by decide +kernel
theorem dX10_vat_181 : decode cX10_vat 181 = .ok (.iload 5, 2) := by decide +kernel
theorem dX10_vat_183 : decode cX10_vat 183 = .ok (.ifCond .eq 11, 3) := by decide +kernel
theorem dX10_vat_186 : decode cX10_vat 186 = .ok (.iload 7, 2) := by decide +kernel
theorem dX10_vat_188 : decode cX10_vat 188 = .ok (.iload 8, 2) := by decide +kernel
theorem dX10_vat_190 : decode cX10_vat 190 = .ok (.idiv, 1) := by decide +kernel
theorem dX10_vat_191 : decode cX10_vat 191 = .ok (.goto 8, 3) := by decide +kernel
theorem dX10_vat_194 : decode cX10_vat 194 = .ok (.iload 6, 2) := by decide +kernel
theorem dX10_vat_196 : decode cX10_vat 196 = .ok (.iload 8, 2) := by decide +kernel
theorem dX10_vat_198 : decode cX10_vat 198 = .ok (.idiv, 1) := by decide +kernel
theorem dX10_vat_199 : decode cX10_vat 199 = .ok (.ireturn, 1) := by decide +kernel
theorem dX10_vats_0 : decode cX10_vats 0 = .ok (.aload_n 0, 1) := by decide +kernel
theorem dX10_vats_1 : decode cX10_vats 1 = .ok (.iload_n 1, 1) := by decide +kernel
theorem dX10_vats_2 : decode cX10_vats 2 = .ok (.invokevirtual 163, 3) := by decide +kernel
theorem dX10_vats_5 : decode cX10_vats 5 = .ok (.ifCond .eq 10, 3) := by decide +kernel
theorem dX10_vats_8 : decode cX10_vats 8 = .ok (.iload_n 2, 1) := by decide +kernel
theorem dX10_vats_9 : decode cX10_vats 9 = .ok (.invokestatic 225, 3) := by decide +kernel
theorem dX10_vats_12 : decode cX10_vats 12 = .ok (.ifCond .ne 6, 3) := by decide +kernel
theorem dX10_vats_15 : decode cX10_vats 15 = .ok (.bipush (-2), 2) := by decide +kernel
theorem dX10_vats_17 : decode cX10_vats 17 = .ok (.ireturn, 1) := by decide +kernel
theorem dX10_vats_18 : decode cX10_vats 18 = .ok (.aload_n 0, 1) := by decide +kernel
theorem dX10_vats_19 : decode cX10_vats 19 = .ok (.getfield 24, 3) := by decide +kernel
theorem dX10_vats_22 : decode cX10_vats 22 = .ok (.getfield 110, 3) := by decide +kernel
theorem dX10_vats_25 : decode cX10_vats 25 = .ok (.invokevirtual 296, 3) := by decide +kernel
theorem dX10_vats_28 : decode cX10_vats 28 = .ok (.istore_n 3, 1) := by decide +kernel
theorem dX10_vats_29 : decode cX10_vats 29 = .ok (.iconst 0, 1) := by decide +kernel
theorem dX10_vats_30 : decode cX10_vats 30 = .ok (.istore 4, 2) := by decide +kernel
theorem dX10_vats_32 : decode cX10_vats 32 = .ok (.iload 4, 2) := by decide +kernel
theorem dX10_vats_34 : decode cX10_vats 34 = .ok (.iload_n 3, 1) := by decide +kernel
theorem dX10_vats_35 : decode cX10_vats 35 = .ok (.if_icmp .ge 24, 3) := by decide +kernel
theorem dX10_vats_38 : decode cX10_vats 38 = .ok (.aload_n 0, 1) := by decide +kernel
theorem dX10_vats_39 : decode cX10_vats 39 = .ok (.getfield 85, 3) := by decide +kernel
theorem dX10_vats_42 : decode cX10_vats 42 = .ok (.iload 4, 2) := by decide +kernel
theorem dX10_vats_44 : decode cX10_vats 44 = .ok (.aload_n 0, 1) := by decide +kernel
theorem dX10_vats_45 : decode cX10_vats 45 = .ok (.iload 4, 2) := by decide +kernel
theorem dX10_vats_47 : decode cX10_vats 47 = .ok (.iload_n 1, 1) := by decide +kernel
theorem dX10_vats_48 : decode cX10_vats 48 = .ok (.iload_n 2, 1) := by decide +kernel
theorem dX10_vats_49 : decode cX10_vats 49 = .ok (.invokevirtual 300, 3) := by decide +kernel
theorem dX10_vats_52 : decode cX10_vats 52 = .ok (.iastore, 1) := by decide +kernel
theorem dX10_vats_53 : decode cX10_vats 53 = .ok (.iinc 4 1, 3) := by decide +kernel
theorem dX10_vats_56 : decode cX10_vats 56 = .ok (.goto (-24), 3) := by decide +kernel
theorem dX10_vats_59 : decode cX10_vats 59 = .ok (.iconst 0, 1) := by decide +kernel
theorem dX10_vats_60 : decode cX10_vats 60 = .ok (.istore 4, 2) := by decide +kernel
theorem dX10_vats_62 : decode cX10_vats 62 = .ok (.iconst 0, 1) := by decide +kernel
theorem dX10_vats_63 : decode cX10_vats 63 = .ok (.istore 5, 2) := by decide +kernel
theorem dX10_vats_65 : decode cX10_vats 65 = .ok (.iload 5, 2) := by decide +kernel
theorem dX10_vats_67 : decode cX10_vats 67 = .ok (.iload_n 3, 1) := by decide +kernel
theorem dX10_vats_68 : decode cX10_vats 68 = .ok (.if_icmp .ge 59, 3) := by decide +kernel
theorem dX10_vats_71 : decode cX10_vats 71 = .ok (.aload_n 0, 1) := by decide +kernel
theorem dX10_vats_72 : decode cX10_vats 72 = .ok (.getfield 85, 3) := by decide +kernel
theorem dX10_vats_75 : decode cX10_vats 75 = .ok (.iload 5, 2) := by decide +kernel
theorem dX10_vats_77 : decode cX10_vats 77 = .ok (.iaload, 1) := by decide +kernel
theorem dX10_vats_78 : decode cX10_vats 78 = .ok (.iconst (-1), 1) := by decide +kernel
theorem dX10_vats_79 : decode cX10_vats 79 = .ok (.if_icmp .eq 42, 3) := by decide +kernel
theorem dX10_vats_82 : decode cX10_vats 82 = .ok (.aload_n 0, 1) := by decide +kernel
theorem dX10_vats_83 : decode cX10_vats 83 = .ok (.aload_n 0, 1) := by decide +kernel
theorem dX10_vats_84 : decode cX10_vats 84 = .ok (.getfield 85, 3) := by decide +kernel
theorem dX10_vats_87 : decode cX10_vats 87 = .ok (.iload 5, 2) := by decide +kernel
theorem dX10_vats_89 : decode cX10_vats 89 = .ok (.iaload, 1) := by decide +kernel
theorem dX10_vats_90 : decode cX10_vats 90 = .ok (.iconst 0, 1) := by decide +kernel
theorem dX10_vats_91 : decode cX10_vats 91 = .ok (.iload 5, 2) := by decide +kernel
theorem dX10_vats_93 : decode cX10_vats 93 = .ok (.invokevirtual 303, 3) := by decide +kernel
theorem dX10_vats_96 : decode cX10_vats 96 = .ok (.ifCond .ne 25, 3) := by decide +kernel
theorem dX10_vats_99 : decode cX10_vats 99 = .ok (.aload_n 0, 1) := by decide +kernel
theorem dX10_vats_100 : decode cX10_vats 100 = .ok (.aload_n 0, 1) := by decide +kernel
theorem dX10_vats_101 : decode cX10_vats 101 = .ok (.getfield 85, 3) := by decide +kernel
theorem dX10_vats_104 : decode cX10_vats 104 = .ok (.iload 5, 2) := by decide +kernel
theorem dX10_vats_106 : decode cX10_vats 106 = .ok (.iaload, 1) := by decide +kernel
theorem dX10_vats_107 : decode cX10_vats 107 = .ok (.iload 5, 2) := by decide +kernel
theorem dX10_vats_109 : decode cX10_vats 109 = .ok (.iconst 1, 1) := by decide +kernel
theorem dX10_vats_110 : decode cX10_vats 110 = .ok (.iadd, 1) := by decide +kernel
theorem dX10_vats_111 : decode cX10_vats 111 = .ok (.iload_n 3, 1) := by decide +kernel
theorem dX10_vats_112 : decode cX10_vats 112 = .ok (.invokevirtual 303, 3) := by decide +kernel
theorem dX10_vats_115 : decode cX10_vats 115 = .ok (.ifCond .le 6, 3) := by decide +kernel
theorem dX10_vats_118 : decode cX10_vats 118 = .ok (.iinc 4 1, 3) := by decide +kernel
theorem dX10_vats_121 : decode cX10_vats 121 = .ok (.iinc 5 1, 3) := by decide +kernel
theorem dX10_vats_124 : decode cX10_vats 124 = .ok (.goto (-59), 3) := by decide +kernel
theorem dX10_vats_127 : decode cX10_vats 127 = .ok (.iload 4, 2) := by decide +kernel
theorem dX10_vats_129 : decode cX10_vats 129 = .ok (.ireturn, 1) := by decide +kernel
theorem dX10_was_0 : decode cX10_was 0 = .ok (.aload_n 0, 1) := by decide +kernel
theorem dX10_was_1 : decode cX10_was 1 = .ok (.iload_n 1, 1) := by decide +kernel
theorem dX10_was_2 : decode cX10_was 2 = .ok (.iload_n 2, 1) := by decide +kernel
theorem dX10_was_3 : decode cX10_was 3 = .ok (.iload_n 3, 1) := by decide +kernel
theorem dX10_was_4 : decode cX10_was 4 = .ok (.invokevirtual 238, 3) := by decide +kernel
theorem dX10_was_7 : decode cX10_was 7 = .ok (.ifCond .eq 11, 3) := by decide +kernel
theorem dX10_was_10 : decode cX10_was 10 = .ok (.iload 4, 2) := by decide +kernel
theorem dX10_was_12 : decode cX10_was 12 = .ok (.invokestatic 186, 3) := by decide +kernel
theorem dX10_was_15 : decode cX10_was 15 = .ok (.ifCond .ne 6, 3) := by decide +kernel
theorem dX10_was_18 : decode cX10_was 18 = .ok (.bipush (-2), 2) := by decide +kernel
theorem dX10_was_20 : decode cX10_was 20 = .ok (.ireturn, 1) := by decide +kernel
theorem dX10_was_21 : decode cX10_was 21 = .ok (.aload_n 0, 1) := by decide +kernel
theorem dX10_was_22 : decode cX10_was 22 = .ok (.getfield 57, 3) := by decide +kernel
theorem dX10_was_25 : decode cX10_was 25 = .ok (.iload_n 1, 1) := by decide +kernel
theorem dX10_was_26 : decode cX10_was 26 = .ok (.iload_n 2, 1) := by decide +kernel
theorem dX10_was_27 : decode cX10_was 27 = .ok (.iload_n 3, 1) := by decide +kernel
theorem dX10_was_28 : decode cX10_was 28 = .ok (.invokevirtual 241, 3) := by decide +kernel
theorem dX10_was_31 : decode cX10_was 31 = .ok (.aload_n 0, 1) := by decide +kernel
theorem dX10_was_32 : decode cX10_was 32 = .ok (.getfield 57, 3) := by decide +kernel
theorem dX10_was_35 : decode cX10_was 35 = .ok (.getfield 245, 3) := by decide +kernel
theorem dX10_was_38 : decode cX10_was 38 = .ok (.ifCond .ne 5, 3) := by decide +kernel
theorem dX10_was_41 : decode cX10_was 41 = .ok (.iconst (-1), 1) := by decide +kernel
theorem dX10_was_42 : decode cX10_was 42 = .ok (.ireturn, 1) := by decide +kernel
theorem dX10_was_43 : decode cX10_was 43 = .ok (.aload_n 0, 1) := by decide +kernel
theorem dX10_was_44 : decode cX10_was 44 = .ok (.getfield 57, 3) := by decide +kernel
theorem dX10_was_47 : decode cX10_was 47 = .ok (.invokevirtual 258, 3) := by decide +kernel
theorem dX10_was_50 : decode cX10_was 50 = .ok (.iload 5, 2) := by decide +kernel
theorem dX10_was_52 : decode cX10_was 52 = .ok (.ifCond .eq 16, 3) := by decide +kernel
theorem dX10_was_55 : decode cX10_was 55 = .ok (.aload_n 0, 1) := by decide +kernel
theorem dX10_was_56 : decode cX10_was 56 = .ok (.getfield 57, 3) := by decide +kernel
theorem dX10_was_59 : decode cX10_was 59 = .ok (.getfield 261, 3) := by decide +kernel
theorem dX10_was_62 : decode cX10_was 62 = .ok (.iload 4, 2) := by decide +kernel
theorem dX10_was_64 : decode cX10_was 64 = .ok (.iaload, 1) := by decide +kernel
theorem dX10_was_65 : decode cX10_was 65 = .ok (.goto 13, 3) := by decide +kernel
theorem dX10_was_68 : decode cX10_was 68 = .ok (.aload_n 0, 1) := by decide +kernel
theorem dX10_was_69 : decode cX10_was 69 = .ok (.getfield 57, 3) := by decide +kernel
theorem dX10_was_72 : decode cX10_was 72 = .ok (.getfield 264, 3) := by decide +kernel
theorem dX10_was_75 : decode cX10_was 75 = .ok (.iload 4, 2) := by decide +kernel
theorem dX10_was_77 : decode cX10_was 77 = .ok (.iaload, 1) := by decide +kernel
theorem dX10_was_78 : decode cX10_was 78 = .ok (.ireturn, 1) := by decide +kernel
theorem dX10_world_0 : decode cX10_world 0 = .ok (.aload_n 0, 1) := by decide +kernel
theorem dX10_world_1 : decode cX10_world 1 = .ok (.iload_n 1, 1) := by decide +kernel
theorem dX10_world_2 : decode cX10_world 2 = .ok (.invokevirtual 193, 3) := by decide +kernel
theorem dX10_world_5 : decode cX10_world 5 = .ok (.ifCond .eq 15, 3) := by decide +kernel
theorem dX10_world_8 : decode cX10_world 8 = .ok (.iload_n 2, 1) := by decide +kernel
theorem dX10_world_9 : decode cX10_world 9 = .ok (.ifCond .lt 11, 3) := by decide +kernel
theorem dX10_world_12 : decode cX10_world 12 = .ok (.aload_n 0, 1) := by decide +kernel
theorem dX10_world_13 : decode cX10_world 13 = .ok (.iload_n 3, 1) := by decide +kernel
theorem dX10_world_14 : decode cX10_world 14 = .ok (.invokevirtual 163, 3) := by decide +kernel
theorem dX10_world_17 : decode cX10_world 17 = .ok (.ifCond .ne 6, 3) := by decide +kernel
theorem dX10_world_20 : decode cX10_world 20 = .ok (.bipush (-2), 2) := by decide +kernel
theorem dX10_world_22 : decode cX10_world 22 = .ok (.ireturn, 1) := by decide +kernel
theorem dX10_world_23 : decode cX10_world 23 = .ok (.aload_n 0, 1) := by decide +kernel
theorem dX10_world_24 : decode cX10_world 24 = .ok (.getfield 44, 3) := by decide +kernel
theorem dX10_world_27 : decode cX10_world 27 = .ok (.iload_n 1, 1) := by decide +kernel
theorem dX10_world_28 : decode cX10_world 28 = .ok (.putfield 338, 3) := by decide +kernel
theorem dX10_world_31 : decode cX10_world 31 = .ok (.aload_n 0, 1) := by decide +kernel
theorem dX10_world_32 : decode cX10_world 32 = .ok (.getfield 44, 3) := by decide +kernel
theorem dX10_world_35 : decode cX10_world 35 = .ok (.getfield 202, 3) := by decide +kernel
theorem dX10_world_38 : decode cX10_world 38 = .ok (.istore 4, 2) := by decide +kernel
theorem dX10_world_40 : decode cX10_world 40 = .ok (.aload_n 0, 1) := by decide +kernel
theorem dX10_world_41 : decode cX10_world 41 = .ok (.getfield 24, 3) := by decide +kernel
theorem dX10_world_44 : decode cX10_world 44 = .ok (.getfield 110, 3) := by decide +kernel
theorem dX10_world_47 : decode cX10_world 47 = .ok (.getfield 155, 3) := by decide +kernel
theorem dX10_world_50 : decode cX10_world 50 = .ok (.ifCond .le 99, 3) := by decide +kernel
theorem dX10_world_53 : decode cX10_world 53 = .ok (.aload_n 0, 1) := by decide +kernel
theorem dX10_world_54 : decode cX10_world 54 = .ok (.getfield 81, 3) := by decide +kernel
theorem dX10_world_57 : decode cX10_world 57 = .ok (.iload_n 2, 1) := by decide +kernel
theorem dX10_world_58 : decode cX10_world 58 = .ok (.i2l, 1) := by decide +kernel
theorem dX10_world_59 : decode cX10_world 59 = .ok (.putfield 341, 3) := by decide +kernel
theorem dX10_world_62 : decode cX10_world 62 = .ok (.iconst 0, 1) := by decide +kernel
theorem dX10_world_63 : decode cX10_world 63 = .ok (.istore 5, 2) := by decide +kernel
theorem dX10_world_65 : decode cX10_world 65 = .ok (.iload 5, 2) := by decide +kernel
theorem dX10_world_67 : decode cX10_world 67 = .ok (.aload_n 0, 1) := by decide +kernel
theorem dX10_world_68 : decode cX10_world 68 = .ok (.getfield 24, 3) := by decide +kernel
theorem dX10_world_71 : decode cX10_world 71 = .ok (.getfield 110, 3) := by decide +kernel
theorem dX10_world_74 : decode cX10_world 74 = .ok (.invokevirtual 296, 3) := by decide +kernel
theorem dX10_world_77 : decode cX10_world 77 = .ok (.if_icmp .ge 72, 3) := by decide +kernel
theorem dX10_world_80 : decode cX10_world 80 = .ok (.aload_n 0, 1) := by decide +kernel
theorem dX10_world_81 : decode cX10_world 81 = .ok (.invokevirtual 345, 3) := by decide +kernel
theorem dX10_world_84 : decode cX10_world 84 = .ok (.istore 6, 2) := by decide +kernel
theorem dX10_world_86 : decode cX10_world 86 = .ok (.aload_n 0, 1) := by decide +kernel
theorem dX10_world_87 : decode cX10_world 87 = .ok (.getfield 24, 3) := by decide +kernel
theorem dX10_world_90 : decode cX10_world 90 = .ok (.getfield 110, 3) := by decide +kernel
theorem dX10_world_93 : decode cX10_world 93 = .ok (.aload_n 0, 1) := by decide +kernel
theorem dX10_world_94 : decode cX10_world 94 = .ok (.getfield 81, 3) := by decide +kernel
theorem dX10_world_97 : decode cX10_world 97 = .ok (.iconst 1, 1) := by decide +kernel
theorem dX10_world_98 : decode cX10_world 98 = .ok (.aload_n 0, 1) := by decide +kernel
theorem dX10_world_99 : decode cX10_world 99 = .ok (.getfield 24, 3) := by decide +kernel
theorem dX10_world_102 : decode cX10_world 102 = .ok (.getfield 110, 3) := by decide +kernel
theorem dX10_world_105 : decode cX10_world 105 = .ok (.getfield 140, 3) := by decide +kernel
theorem dX10_world_108 : decode cX10_world 108 = .ok (.iadd, 1) := by decide +kernel
theorem dX10_world_109 : decode cX10_world 109 = .ok (.invokevirtual 348, 3) := by decide +kernel
theorem dX10_world_112 : decode cX10_world 112 = .ok (.invokevirtual 351, 3) := by decide +kernel
theorem dX10_world_115 : decode cX10_world 115 = .ok (.istore 7, 2) := by decide +kernel
theorem dX10_world_117 : decode cX10_world 117 = .ok (.aload_n 0, 1) := by decide +kernel
theorem dX10_world_118 : decode cX10_world 118 = .ok (.iload_n 1, 1) := by decide +kernel
theorem dX10_world_119 : decode cX10_world 119 = .ok (.iload 5, 2) := by decide +kernel
theorem dX10_world_121 : decode cX10_world 121 = .ok (.iconst 0, 1) := by decide +kernel
theorem dX10_world_122 : decode cX10_world 122 = .ok (.iload 6, 2) := by decide +kernel
theorem dX10_world_124 : decode cX10_world 124 = .ok (.iload_n 3, 1) := by decide +kernel
theorem dX10_world_125 : decode cX10_world 125 = .ok (.iload 7, 2) := by decide +kernel
theorem dX10_world_127 : decode cX10_world 127 = .ok (.invokevirtual 354, 3) := by decide +kernel
theorem dX10_world_130 : decode cX10_world 130 = .ok (.aload_n 0, 1) := by decide +kernel
theorem dX10_world_131 : decode cX10_world 131 = .ok (.iload_n 1, 1) := by decide +kernel
theorem dX10_world_132 : decode cX10_world 132 = .ok (.iload 5, 2) := by decide +kernel
theorem dX10_world_134 : decode cX10_world 134 = .ok (.iconst 1, 1) := by decide +kernel
theorem dX10_world_135 : decode cX10_world 135 = .ok (.iload 6, 2) := by decide +kernel
theorem dX10_world_137 : decode cX10_world 137 = .ok (.iload_n 3, 1) := by decide +kernel
theorem dX10_world_138 : decode cX10_world 138 = .ok (.iload 7, 2) := by decide +kernel
theorem dX10_world_140 : decode cX10_world 140 = .ok (.invokevirtual 354, 3) := by decide +kernel
theorem dX10_world_143 : decode cX10_world 143 = .ok (.iinc 5 1, 3) := by decide +kernel
theorem dX10_world_146 : decode cX10_world 146 = .ok (.goto (-81), 3) := by decide +kernel
theorem dX10_world_149 : decode cX10_world 149 = .ok (.aload_n 0, 1) := by decide +kernel
theorem dX10_world_150 : decode cX10_world 150 = .ok (.getfield 44, 3) := by decide +kernel
theorem dX10_world_153 : decode cX10_world 153 = .ok (.getfield 202, 3) := by decide +kernel
theorem dX10_world_156 : decode cX10_world 156 = .ok (.iload 4, 2) := by decide +kernel
theorem dX10_world_158 : decode cX10_world 158 = .ok (.isub, 1) := by decide +kernel
theorem dX10_world_159 : decode cX10_world 159 = .ok (.ireturn, 1) := by decide +kernel
theorem dX11_addLook_0 : decode cX11_addLook 0 = .ok (.aload_n 0, 1) := by decide +kernel
theorem dX11_addLook_1 : decode cX11_addLook 1 = .ok (.getfield 55, 3) := by decide +kernel
theorem dX11_addLook_4 : decode cX11_addLook 4 = .ok (.iconst 0, 1) := by decide +kernel
theorem dX11_addLook_5 : decode cX11_addLook 5 = .ok (.iaload, 1) := by decide +kernel
theorem dX11_addLook_6 : decode cX11_addLook 6 = .ok (.istore 8, 2) := by decide +kernel
theorem dX11_addLook_8 : decode cX11_addLook 8 = .ok (.iload 8, 2) := by decide +kernel
theorem dX11_addLook_10 : decode cX11_addLook 10 = .ok (.bipush 90, 2) := by decide +kernel
theorem dX11_addLook_12 : decode cX11_addLook 12 = .ok (.if_icmp .ne 6, 3) := by decide +kernel
theorem dX11_addLook_15 : decode cX11_addLook 15 = .ok (.bipush (-3), 2) := by decide +kernel
theorem dX11_addLook_17 : decode cX11_addLook 17 = .ok (.ireturn, 1) := by decide +kernel
theorem dX11_addLook_18 : decode cX11_addLook 18 = .ok (.iconst 4, 1) := by decide +kernel
theorem dX11_addLook_19 : decode cX11_addLook 19 = .ok (.bipush 7, 2) := by decide +kernel
theorem dX11_addLook_21 : decode cX11_addLook 21 = .ok (.iload 8, 2) := by decide +kernel
theorem dX11_addLook_23 : decode cX11_addLook 23 = .ok (.imul, 1) := by decide +kernel
theorem dX11_addLook_24 : decode cX11_addLook 24 = .ok (.iadd, 1) := by decide +kernel
theorem dX11_addLook_25 : decode cX11_addLook 25 = .ok (.istore 9, 2) := by decide +kernel
theorem dX11_addLook_27 : decode cX11_addLook 27 = .ok (.aload_n 0, 1) := by decide +kernel
theorem dX11_addLook_28 : decode cX11_addLook 28 = .ok (.getfield 55, 3) := by decide +kernel
theorem dX11_addLook_31 : decode cX11_addLook 31 = .ok (.iconst 3, 1) := by decide +kernel
theorem dX11_addLook_32 : decode cX11_addLook 32 = .ok (.iload_n 1, 1) := by decide +kernel
theorem dX11_addLook_33 : decode cX11_addLook 33 = .ok (.iastore, 1) := by decide +kernel
theorem dX11_addLook_34 : decode cX11_addLook 34 = .ok (.aload_n 0, 1) := by decide +kernel
theorem dX11_addLook_35 : decode cX11_addLook 35 = .ok (.getfield 55, 3) := by decide +kernel
theorem dX11_addLook_38 : decode cX11_addLook 38 = .ok (.iload 9, 2) := by decide +kernel
theorem dX11_addLook_40 : decode cX11_addLook 40 = .ok (.iload_n 1, 1) := by decide +kernel
theorem dX11_addLook_41 : decode cX11_addLook 41 = .ok (.iastore, 1) := by decide +kernel
theorem dX11_addLook_42 : decode cX11_addLook 42 = .ok (.aload_n 0, 1) := by decide +kernel
theorem dX11_addLook_43 : decode cX11_addLook 43 = .ok (.getfield 55, 3) := by decide +kernel
theorem dX11_addLook_46 : decode cX11_addLook 46 = .ok (.iload 9, 2) := by decide +kernel
theorem dX11_addLook_48 : decode cX11_addLook 48 = .ok (.iconst 1, 1) := by decide +kernel
theorem dX11_addLook_49 : decode cX11_addLook 49 = .ok (.iadd, 1) := by decide +kernel
theorem dX11_addLook_50 : decode cX11_addLook 50 = .ok (.iload_n 2, 1) := by decide +kernel
theorem dX11_addLook_51 : decode cX11_addLook 51 = .ok (.iastore, 1) := by decide +kernel
theorem dX11_addLook_52 : decode cX11_addLook 52 = .ok (.aload_n 0, 1) := by decide +kernel
theorem dX11_addLook_53 : decode cX11_addLook 53 = .ok (.getfield 55, 3) := by decide +kernel
theorem dX11_addLook_56 : decode cX11_addLook 56 = .ok (.iload 9, 2) := by decide +kernel
theorem dX11_addLook_58 : decode cX11_addLook 58 = .ok (.iconst 2, 1) := by decide +kernel
theorem dX11_addLook_59 : decode cX11_addLook 59 = .ok (.iadd, 1) := by decide +kernel
theorem dX11_addLook_60 : decode cX11_addLook 60 = .ok (.iload_n 3, 1) := by decide +kernel
theorem dX11_addLook_61 : decode cX11_addLook 61 = .ok (.iastore, 1) := by decide +kernel
theorem dX11_addLook_62 : decode cX11_addLook 62 = .ok (.aload_n 0, 1) := by decide +kernel
theorem dX11_addLook_63 : decode cX11_addLook 63 = .ok (.getfield 55, 3) := by decide +kernel
theorem dX11_addLook_66 : decode cX11_addLook 66 = .ok (.iload 9, 2) := by decide +kernel
theorem dX11_addLook_68 : decode cX11_addLook 68 = .ok (.iconst 3, 1) := by decide +kernel
theorem dX11_addLook_69 : decode cX11_addLook 69 = .ok (.iadd, 1) := by decide +kernel
theorem dX11_addLook_70 : decode cX11_addLook 70 = .ok (.iload 4, 2) := by decide +kernel
theorem dX11_addLook_72 : decode cX11_addLook 72 = .ok (.iastore, 1) := by decide +kernel
theorem dX11_addLook_73 : decode cX11_addLook 73 = .ok (.aload_n 0, 1) := by decide +kernel
theorem dX11_addLook_74 : decode cX11_addLook 74 = .ok (.getfield 55, 3) := by decide +kernel
theorem dX11_addLook_77 : decode cX11_addLook 77 = .ok (.iload 9, 2) := by decide +kernel
theorem dX11_addLook_79 : decode cX11_addLook 79 = .ok (.iconst 4, 1) := by decide +kernel
theorem dX11_addLook_80 : decode cX11_addLook 80 = .ok (.iadd, 1) := by decide +kernel
theorem dX11_addLook_81 : decode cX11_addLook 81 = .ok (.iload 5, 2) := by decide +kernel
theorem dX11_addLook_83 : decode cX11_addLook 83 = .ok (.iastore, 1) := by decide +kernel
theorem dX11_addLook_84 : decode cX11_addLook 84 = .ok (.aload_n 0, 1) := by decide +kernel
theorem dX11_addLook_85 : decode cX11_addLook 85 = .ok (.getfield 55, 3) := by decide +kernel
theorem dX11_addLook_88 : decode cX11_addLook 88 = .ok (.iload 9, 2) := by decide +kernel
theorem dX11_addLook_90 : decode cX11_addLook 90 = .ok (.iconst 5, 1) := by decide +kernel
theorem dX11_addLook_91 : decode cX11_addLook 91 = .ok (.iadd, 1) := by decide +kernel
theorem dX11_addLook_92 : decode cX11_addLook 92 = .ok (.iload 6, 2) := by decide +kernel
theorem dX11_addLook_94 : decode cX11_addLook 94 = .ok (.iastore, 1) := by decide +kernel
theorem dX11_addLook_95 : decode cX11_addLook 95 = .ok (.aload_n 0, 1) := by decide +kernel
theorem dX11_addLook_96 : decode cX11_addLook 96 = .ok (.getfield 55, 3) := by decide +kernel
theorem dX11_addLook_99 : decode cX11_addLook 99 = .ok (.iload 9, 2) := by decide +kernel
theorem dX11_addLook_101 : decode cX11_addLook 101 = .ok (.bipush 6, 2) := by decide +kernel
theorem dX11_addLook_103 : decode cX11_addLook 103 = .ok (.iadd, 1) := by decide +kernel
theorem dX11_addLook_104 : decode cX11_addLook 104 = .ok (.iload 7, 2) := by decide +kernel
theorem dX11_addLook_106 : decode cX11_addLook 106 = .ok (.iastore, 1) := by decide +kernel
theorem dX11_addLook_107 : decode cX11_addLook 107 = .ok (.aload_n 0, 1) := by decide +kernel
theorem dX11_addLook_108 : decode cX11_addLook 108 = .ok (.getfield 55, 3) := by decide +kernel
theorem dX11_addLook_111 : decode cX11_addLook 111 = .ok (.iconst 0, 1) := by decide +kernel
theorem dX11_addLook_112 : decode cX11_addLook 112 = .ok (.dup2, 1) := by decide +kernel
theorem dX11_addLook_113 : decode cX11_addLook 113 = .ok (.iaload, 1) := by decide +kernel
theorem dX11_addLook_114 : decode cX11_addLook 114 = .ok (.iconst 1, 1) := by decide +kernel
theorem dX11_addLook_115 : decode cX11_addLook 115 = .ok (.iadd, 1) := by decide +kernel
theorem dX11_addLook_116 : decode cX11_addLook 116 = .ok (.iastore, 1) := by decide +kernel
theorem dX11_addLook_117 : decode cX11_addLook 117 = .ok (.iload 8, 2) := by decide +kernel
theorem dX11_addLook_119 : decode cX11_addLook 119 = .ok (.iconst 1, 1) := by decide +kernel
theorem dX11_addLook_120 : decode cX11_addLook 120 = .ok (.iadd, 1) := by decide +kernel
theorem dX11_addLook_121 : decode cX11_addLook 121 = .ok (.ireturn, 1) := by decide +kernel
theorem dX11_addThread_0 : decode cX11_addThread 0 = .ok (.aload_n 0, 1) := by decide +kernel
theorem dX11_addThread_1 : decode cX11_addThread 1 = .ok (.getfield 43, 3) := by decide +kernel
theorem dX11_addThread_4 : decode cX11_addThread 4 = .ok (.aload_n 0, 1) := by decide +kernel
theorem dX11_addThread_5 : decode cX11_addThread 5 = .ok (.getfield 189, 3) := by decide +kernel
theorem dX11_addThread_8 : decode cX11_addThread 8 = .ok (.iload_n 1, 1) := by decide +kernel
theorem dX11_addThread_9 : decode cX11_addThread 9 = .ok (.iastore, 1) := by decide +kernel
theorem dX11_addThread_10 : decode cX11_addThread 10 = .ok (.aload_n 0, 1) := by decide +kernel
theorem dX11_addThread_11 : decode cX11_addThread 11 = .ok (.getfield 46, 3) := by decide +kernel
theorem dX11_addThread_14 : decode cX11_addThread 14 = .ok (.aload_n 0, 1) := by decide +kernel
theorem dX11_addThread_15 : decode cX11_addThread 15 = .ok (.getfield 189, 3) := by decide +kernel
theorem dX11_addThread_18 : decode cX11_addThread 18 = .ok (.iload_n 2, 1) := by decide +kernel
theorem dX11_addThread_19 : decode cX11_addThread 19 = .ok (.iastore, 1) := by decide +kernel
theorem dX11_addThread_20 : decode cX11_addThread 20 = .ok (.aload_n 0, 1) := by decide +kernel
theorem dX11_addThread_21 : decode cX11_addThread 21 = .ok (.getfield 49, 3) := by decide +kernel
theorem dX11_addThread_24 : decode cX11_addThread 24 = .ok (.aload_n 0, 1) := by decide +kernel
theorem dX11_addThread_25 : decode cX11_addThread 25 = .ok (.getfield 189, 3) := by decide +kernel
theorem dX11_addThread_28 : decode cX11_addThread 28 = .ok (.iload_n 3, 1) := by decide +kernel
theorem dX11_addThread_29 : decode cX11_addThread 29 = .ok (.iastore, 1) := by decide +kernel
theorem dX11_addThread_30 : decode cX11_addThread 30 = .ok (.aload_n 0, 1) := by decide +kernel
theorem dX11_addThread_31 : decode cX11_addThread 31 = .ok (.getfield 52, 3) := by decide +kernel
theorem dX11_addThread_34 : decode cX11_addThread 34 = .ok (.aload_n 0, 1) := by decide +kernel
theorem dX11_addThread_35 : decode cX11_addThread 35 = .ok (.getfield 189, 3) := by decide +kernel
theorem dX11_addThread_38 : decode cX11_addThread 38 = .ok (.iload 4, 2) := by decide +kernel
theorem dX11_addThread_40 : decode cX11_addThread 40 = .ok (.iastore, 1) := by decide +kernel
theorem dX11_addThread_41 : decode cX11_addThread 41 = .ok (.aload_n 0, 1) := by decide +kernel
theorem dX11_addThread_42 : decode cX11_addThread 42 = .ok (.dup, 1) := by decide +kernel
theorem dX11_addThread_43 : decode cX11_addThread 43 = .ok (.getfield 189, 3) := by decide +kernel
theorem dX11_addThread_46 : decode cX11_addThread 46 = .ok (.iconst 1, 1) := by decide +kernel
theorem dX11_addThread_47 : decode cX11_addThread 47 = .ok (.iadd, 1) := by decide +kernel
theorem dX11_addThread_48 : decode cX11_addThread 48 = .ok (.putfield 189, 3) := by decide +kernel
theorem dX11_addThread_51 : decode cX11_addThread 51 = .ok (.return_, 1) := by decide +kernel
theorem dX11_addWord_0 : decode cX11_addWord 0 = .ok (.aload_n 0, 1) := by decide +kernel
theorem dX11_addWord_1 : decode cX11_addWord 1 = .ok (.getfield 62, 3) := by decide +kernel
theorem dX11_addWord_4 : decode cX11_addWord 4 = .ok (.aload_n 0, 1) := by decide +kernel
theorem dX11_addWord_5 : decode cX11_addWord 5 = .ok (.getfield 283, 3) := by decide +kernel
theorem dX11_addWord_8 : decode cX11_addWord 8 = .ok (.iload_n 1, 1) := by decide +kernel
theorem dX11_addWord_9 : decode cX11_addWord 9 = .ok (.iastore, 1) := by decide +kernel
theorem dX11_addWord_10 : decode cX11_addWord 10 = .ok (.aload_n 0, 1) := by decide +kernel
theorem dX11_addWord_11 : decode cX11_addWord 11 = .ok (.getfield 65, 3) := by decide +kernel
theorem dX11_addWord_14 : decode cX11_addWord 14 = .ok (.aload_n 0, 1) := by decide +kernel
theorem dX11_addWord_15 : decode cX11_addWord 15 = .ok (.getfield 283, 3) := by decide +kernel
theorem dX11_addWord_18 : decode cX11_addWord 18 = .ok (.iload_n 2, 1) := by decide +kernel
theorem dX11_addWord_19 : decode cX11_addWord 19 = .ok (.iastore, 1) := by decide +kernel
theorem dX11_addWord_20 : decode cX11_addWord 20 = .ok (.iconst 0, 1) := by decide +kernel
theorem dX11_addWord_21 : decode cX11_addWord 21 = .ok (.istore 4, 2) := by decide +kernel
theorem dX11_addWord_23 : decode cX11_addWord 23 = .ok (.iload 4, 2) := by decide +kernel
theorem dX11_addWord_25 : decode cX11_addWord 25 = .ok (.iconst 3, 1) := by decide +kernel
theorem dX11_addWord_26 : decode cX11_addWord 26 = .ok (.if_icmp .ge 32, 3) := by decide +kernel
theorem dX11_addWord_29 : decode cX11_addWord 29 = .ok (.aload_n 0, 1) := by decide +kernel
theorem dX11_addWord_30 : decode cX11_addWord 30 = .ok (.getfield 68, 3) := by decide +kernel
theorem dX11_addWord_33 : decode cX11_addWord 33 = .ok (.iconst 3, 1) := by decide +kernel
theorem dX11_addWord_34 : decode cX11_addWord 34 = .ok (.aload_n 0, 1) := by decide +kernel
theorem dX11_addWord_35 : decode cX11_addWord 35 = .ok (.getfield 283, 3) := by decide +kernel
theorem dX11_addWord_38 : decode cX11_addWord 38 = .ok (.imul, 1) := by decide +kernel
theorem dX11_addWord_39 : decode cX11_addWord 39 = .ok (.iload 4, 2) := by decide +kernel
theorem dX11_addWord_41 : decode cX11_addWord 41 = .ok (.iadd, 1) := by decide +kernel
theorem dX11_addWord_42 : decode cX11_addWord 42 = .ok (.aload_n 0, 1) := by decide +kernel
theorem dX11_addWord_43 : decode cX11_addWord 43 = .ok (.getfield 55, 3) := by decide +kernel
theorem dX11_addWord_46 : decode cX11_addWord 46 = .ok (.iload_n 3, 1) := by decide +kernel
theorem dX11_addWord_47 : decode cX11_addWord 47 = .ok (.iload 4, 2) := by decide +kernel
theorem dX11_addWord_49 : decode cX11_addWord 49 = .ok (.iadd, 1) := by decide +kernel
theorem dX11_addWord_50 : decode cX11_addWord 50 = .ok (.iaload, 1) := by decide +kernel
theorem dX11_addWord_51 : decode cX11_addWord 51 = .ok (.iastore, 1) := by decide +kernel
theorem dX11_addWord_52 : decode cX11_addWord 52 = .ok (.iinc 4 1, 3) := by decide +kernel
theorem dX11_addWord_55 : decode cX11_addWord 55 = .ok (.goto (-32), 3) := by decide +kernel
theorem dX11_addWord_58 : decode cX11_addWord 58 = .ok (.aload_n 0, 1) := by decide +kernel
theorem dX11_addWord_59 : decode cX11_addWord 59 = .ok (.dup, 1) := by decide +kernel
theorem dX11_addWord_60 : decode cX11_addWord 60 = .ok (.getfield 283, 3) := by decide +kernel
theorem dX11_addWord_63 : decode cX11_addWord 63 = .ok (.iconst 1, 1) := by decide +kernel
theorem dX11_addWord_64 : decode cX11_addWord 64 = .ok (.iadd, 1) := by decide +kernel
theorem dX11_addWord_65 : decode cX11_addWord 65 = .ok (.putfield 283, 3) := by decide +kernel
theorem dX11_addWord_68 : decode cX11_addWord 68 = .ok (.return_, 1) := by decide +kernel
theorem dX11_in_0 : decode cX11_in 0 = .ok (.iload_n 0, 1) := by decide +kernel
theorem dX11_in_1 : decode cX11_in 1 = .ok (.iload_n 1, 1) := by decide +kernel
theorem dX11_in_2 : decode cX11_in 2 = .ok (.if_icmp .lt 12, 3) := by decide +kernel
theorem dX11_in_5 : decode cX11_in 5 = .ok (.iload_n 0, 1) := by decide +kernel
theorem dX11_in_6 : decode cX11_in 6 = .ok (.iload_n 2, 1) := by decide +kernel
theorem dX11_in_7 : decode cX11_in 7 = .ok (.if_icmp .gt 7, 3) := by decide +kernel
theorem dX11_in_10 : decode cX11_in 10 = .ok (.iconst 1, 1) := by decide +kernel
theorem dX11_in_11 : decode cX11_in 11 = .ok (.goto 4, 3) := by decide +kernel
theorem dX11_in_14 : decode cX11_in 14 = .ok (.iconst 0, 1) := by decide +kernel
theorem dX11_in_15 : decode cX11_in 15 = .ok (.ireturn, 1) := by decide +kernel
theorem dX11_areColours_0 : decode cX11_areColours 0 = .ok (.iload_n 0, 1) := by decide +kernel
theorem dX11_areColours_1 : decode cX11_areColours 1 = .ok (.iconst 0, 1) := by decide +kernel
theorem dX11_areColours_2 : decode cX11_areColours 2 = .ok (.bipush 99, 2) := by decide +kernel
theorem dX11_areColours_4 : decode cX11_areColours 4 = .ok (.invokestatic 172, 3) := by decide +kernel
theorem dX11_areColours_7 : decode cX11_areColours 7 = .ok (.ifCond .eq 27, 3) := by decide +kernel
theorem dX11_areColours_10 : decode cX11_areColours 10 = .ok (.iload_n 1, 1) := by decide +kernel
theorem dX11_areColours_11 : decode cX11_areColours 11 = .ok (.iconst 0, 1) := by decide +kernel
theorem dX11_areColours_12 : decode cX11_areColours 12 = .ok (.bipush 99, 2) := by decide +kernel
theorem dX11_areColours_14 : decode cX11_areColours 14 = .ok (.invokestatic 172, 3) := by decide +kernel
theorem dX11_areColours_17 : decode cX11_areColours 17 = .ok (.ifCond .eq 17, 3) := by decide +kernel
theorem dX11_areColours_20 : decode cX11_areColours 20 = .ok (.iload_n 2, 1) := by decide +kernel
theorem dX11_areColours_21 : decode cX11_areColours 21 = .ok (.iconst 0, 1) := by decide +kernel
theorem dX11_areColours_22 : decode cX11_areColours 22 = .ok (.bipush 99, 2) := by decide +kernel
theorem dX11_areColours_24 : decode cX11_areColours 24 = .ok (.invokestatic 172, 3) := by decide +kernel
theorem dX11_areColours_27 : decode cX11_areColours 27 = .ok (.ifCond .eq 7, 3) := by decide +kernel
theorem dX11_areColours_30 : decode cX11_areColours 30 = .ok (.iconst 1, 1) := by decide +kernel
theorem dX11_areColours_31 : decode cX11_areColours 31 = .ok (.goto 4, 3) := by decide +kernel
theorem dX11_areColours_34 : decode cX11_areColours 34 = .ok (.iconst 0, 1) := by decide +kernel
theorem dX11_areColours_35 : decode cX11_areColours 35 = .ok (.ireturn, 1) := by decide +kernel
theorem dX11_areHours_0 : decode cX11_areHours 0 = .ok (.iload_n 0, 1) := by decide +kernel
theorem dX11_areHours_1 : decode cX11_areHours 1 = .ok (.iconst 0, 1) := by decide +kernel
theorem dX11_areHours_2 : decode cX11_areHours 2 = .ok (.ldc 231, 2) := by decide +kernel
theorem dX11_areHours_4 : decode cX11_areHours 4 = .ok (.invokestatic 172, 3) := by decide +kernel
theorem dX11_areHours_7 : decode cX11_areHours 7 = .ok (.ireturn, 1) := by decide +kernel
theorem dX11_cells_0 : decode cX11_cells 0 = .ok (.aload_n 0, 1) := by decide +kernel
theorem dX11_cells_1 : decode cX11_cells 1 = .ok (.getfield 17, 3) := by decide +kernel
theorem dX11_cells_4 : decode cX11_cells 4 = .ok (.iconst 0, 1) := by decide +kernel
theorem dX11_cells_5 : decode cX11_cells 5 = .ok (.iaload, 1) := by decide +kernel
theorem dX11_cells_6 : decode cX11_cells 6 = .ok (.aload_n 0, 1) := by decide +kernel
theorem dX11_cells_7 : decode cX11_cells 7 = .ok (.getfield 17, 3) := by decide +kernel
theorem dX11_cells_10 : decode cX11_cells 10 = .ok (.iconst 1, 1) := by decide +kernel
theorem dX11_cells_11 : decode cX11_cells 11 = .ok (.iaload, 1) := by decide +kernel
theorem dX11_cells_12 : decode cX11_cells 12 = .ok (.imul, 1) := by decide +kernel
theorem dX11_cells_13 : decode cX11_cells 13 = .ok (.ireturn, 1) := by decide +kernel
theorem dX11_isCell_0 : decode cX11_isCell 0 = .ok (.iload_n 1, 1) := by decide +kernel
theorem dX11_isCell_1 : decode cX11_isCell 1 = .ok (.iconst 0, 1) := by decide +kernel
theorem dX11_isCell_2 : decode cX11_isCell 2 = .ok (.aload_n 0, 1) := by decide +kernel
theorem dX11_isCell_3 : decode cX11_isCell 3 = .ok (.invokevirtual 222, 3) := by decide +kernel
theorem dX11_isCell_6 : decode cX11_isCell 6 = .ok (.iconst 1, 1) := by decide +kernel
theorem dX11_isCell_7 : decode cX11_isCell 7 = .ok (.isub, 1) := by decide +kernel
theorem dX11_isCell_8 : decode cX11_isCell 8 = .ok (.invokestatic 172, 3) := by decide +kernel
theorem dX11_isCell_11 : decode cX11_isCell 11 = .ok (.ireturn, 1) := by decide +kernel
theorem dX11_isTelling_0 : decode cX11_isTelling 0 = .ok (.iload_n 1, 1) := by decide +kernel
theorem dX11_isTelling_1 : decode cX11_isTelling 1 = .ok (.aload_n 0, 1) := by decide +kernel
theorem dX11_isTelling_2 : decode cX11_isTelling 2 = .ok (.getfield 55, 3) := by decide +kernel
theorem dX11_isTelling_5 : decode cX11_isTelling 5 = .ok (.iconst 3, 1) := by decide +kernel
theorem dX11_isTelling_6 : decode cX11_isTelling 6 = .ok (.iaload, 1) := by decide +kernel
theorem dX11_isTelling_7 : decode cX11_isTelling 7 = .ok (.sipush 999, 3) := by decide +kernel
theorem dX11_isTelling_10 : decode cX11_isTelling 10 = .ok (.invokestatic 172, 3) := by decide +kernel
theorem dX11_isTelling_13 : decode cX11_isTelling 13 = .ok (.ireturn, 1) := by decide +kernel
theorem dX11_attempt_0 : decode cX11_attempt 0 = .ok (.aload_n 0, 1) := by decide +kernel
theorem dX11_attempt_1 : decode cX11_attempt 1 = .ok (.iload_n 1, 1) := by decide +kernel
theorem dX11_attempt_2 : decode cX11_attempt 2 = .ok (.invokevirtual 261, 3) := by decide +kernel
theorem dX11_attempt_5 : decode cX11_attempt 5 = .ok (.ifCond .eq 34, 3) := by decide +kernel
theorem dX11_attempt_8 : decode cX11_attempt 8 = .ok (.aload_n 0, 1) := by decide +kernel
theorem dX11_attempt_9 : decode cX11_attempt 9 = .ok (.iload_n 2, 1) := by decide +kernel
theorem dX11_attempt_10 : decode cX11_attempt 10 = .ok (.invokevirtual 264, 3) := by decide +kernel
theorem dX11_attempt_13 : decode cX11_attempt 13 = .ok (.ifCond .eq 26, 3) := by decide +kernel
theorem dX11_attempt_16 : decode cX11_attempt 16 = .ok (.iload_n 3, 1) := by decide +kernel
theorem dX11_attempt_17 : decode cX11_attempt 17 = .ok (.iconst 1, 1) := by decide +kernel
theorem dX11_attempt_18 : decode cX11_attempt 18 = .ok (.sipush 999, 3) := by decide +kernel
theorem dX11_attempt_21 : decode cX11_attempt 21 = .ok (.invokestatic 172, 3) := by decide +kernel
theorem dX11_attempt_24 : decode cX11_attempt 24 = .ok (.ifCond .eq 15, 3) := by decide +kernel
theorem dX11_attempt_27 : decode cX11_attempt 27 = .ok (.iload 4, 2) := by decide +kernel
theorem dX11_attempt_29 : decode cX11_attempt 29 = .ok (.iload 5, 2) := by decide +kernel
theorem dX11_attempt_31 : decode cX11_attempt 31 = .ok (.iload 6, 2) := by decide +kernel
theorem dX11_attempt_33 : decode cX11_attempt 33 = .ok (.invokestatic 267, 3) := by decide +kernel
theorem dX11_attempt_36 : decode cX11_attempt 36 = .ok (.ifCond .ne 6, 3) := by decide +kernel
theorem dX11_attempt_39 : decode cX11_attempt 39 = .ok (.bipush (-2), 2) := by decide +kernel
theorem dX11_attempt_41 : decode cX11_attempt 41 = .ok (.ireturn, 1) := by decide +kernel
theorem dX11_attempt_42 : decode cX11_attempt 42 = .ok (.aload_n 0, 1) := by decide +kernel
theorem dX11_attempt_43 : decode cX11_attempt 43 = .ok (.getfield 55, 3) := by decide +kernel
theorem dX11_attempt_46 : decode cX11_attempt 46 = .ok (.iconst 1, 1) := by decide +kernel
theorem dX11_attempt_47 : decode cX11_attempt 47 = .ok (.iaload, 1) := by decide +kernel
theorem dX11_attempt_48 : decode cX11_attempt 48 = .ok (.istore 7, 2) := by decide +kernel
theorem dX11_attempt_50 : decode cX11_attempt 50 = .ok (.iload 7, 2) := by decide +kernel
theorem dX11_attempt_52 : decode cX11_attempt 52 = .ok (.bipush 20, 2) := by decide +kernel
theorem dX11_attempt_54 : decode cX11_attempt 54 = .ok (.if_icmp .ne 6, 3) := by decide +kernel
theorem dX11_attempt_57 : decode cX11_attempt 57 = .ok (.bipush (-3), 2) := by decide +kernel
theorem dX11_attempt_59 : decode cX11_attempt 59 = .ok (.ireturn, 1) := by decide +kernel
theorem dX11_attempt_60 : decode cX11_attempt 60 = .ok (.sipush 634, 3) := by decide +kernel
theorem dX11_attempt_63 : decode cX11_attempt 63 = .ok (.bipush 6, 2) := by decide +kernel
theorem dX11_attempt_65 : decode cX11_attempt 65 = .ok (.iload 7, 2) := by decide +kernel
theorem dX11_attempt_67 : decode cX11_attempt 67 = .ok (.imul, 1) := by decide +kernel
theorem dX11_attempt_68 : decode cX11_attempt 68 = .ok (.iadd, 1) := by decide +kernel
theorem dX11_attempt_69 : decode cX11_attempt 69 = .ok (.istore 8, 2) := by decide +kernel
theorem dX11_attempt_71 : decode cX11_attempt 71 = .ok (.aload_n 0, 1) := by decide +kernel
theorem dX11_attempt_72 : decode cX11_attempt 72 = .ok (.getfield 55, 3) := by decide +kernel
theorem dX11_attempt_75 : decode cX11_attempt 75 = .ok (.iconst 3, 1) := by decide +kernel
theorem dX11_attempt_76 : decode cX11_attempt 76 = .ok (.iload_n 1, 1) := by decide +kernel
theorem dX11_attempt_77 : decode cX11_attempt 77 = .ok (.iastore, 1) := by decide +kernel
theorem dX11_attempt_78 : decode cX11_attempt 78 = .ok (.aload_n 0, 1) := by decide +kernel
theorem dX11_attempt_79 : decode cX11_attempt 79 = .ok (.getfield 55, 3) := by decide +kernel
theorem dX11_attempt_82 : decode cX11_attempt 82 = .ok (.iload 8, 2) := by decide +kernel
theorem dX11_attempt_84 : decode cX11_attempt 84 = .ok (.iload_n 1, 1) := by decide +kernel
theorem dX11_attempt_85 : decode cX11_attempt 85 = .ok (.iastore, 1) := by decide +kernel
theorem dX11_attempt_86 : decode cX11_attempt 86 = .ok (.aload_n 0, 1) := by decide +kernel
theorem dX11_attempt_87 : decode cX11_attempt 87 = .ok (.getfield 55, 3) := by decide +kernel
theorem dX11_attempt_90 : decode cX11_attempt 90 = .ok (.iload 8, 2) := by decide +kernel
theorem dX11_attempt_92 : decode cX11_attempt 92 = .ok (.iconst 1, 1) := by decide +kernel
theorem dX11_attempt_93 : decode cX11_attempt 93 = .ok (.iadd, 1) := by decide +kernel
theorem dX11_attempt_94 : decode cX11_attempt 94 = .ok (.iload_n 2, 1) := by decide +kernel
theorem dX11_attempt_95 : decode cX11_attempt 95 = .ok (.iastore, 1) := by decide +kernel
theorem dX11_attempt_96 : decode cX11_attempt 96 = .ok (.aload_n 0, 1) := by decide +kernel
theorem dX11_attempt_97 : decode cX11_attempt 97 = .ok (.getfield 55, 3) := by decide +kernel
theorem dX11_attempt_100 : decode cX11_attempt 100 = .ok (.iload 8, 2) := by decide +kernel
theorem dX11_attempt_102 : decode cX11_attempt 102 = .ok (.iconst 2, 1) := by decide +kernel
theorem dX11_attempt_103 : decode cX11_attempt 103 = .ok (.iadd, 1) := by decide +kernel
theorem dX11_attempt_104 : decode cX11_attempt 104 = .ok (.iload_n 3, 1) := by decide +kernel
theorem dX11_attempt_105 : decode cX11_attempt 105 = .ok (.iastore, 1) := by decide +kernel
theorem dX11_attempt_106 : decode cX11_attempt 106 = .ok (.aload_n 0, 1) := by decide +kernel
theorem dX11_attempt_107 : decode cX11_attempt 107 = .ok (.getfield 55, 3) := by decide +kernel
theorem dX11_attempt_110 : decode cX11_attempt 110 = .ok (.iload 8, 2) := by decide +kernel
theorem dX11_attempt_112 : decode cX11_attempt 112 = .ok (.iconst 3, 1) := by decide +kernel
theorem dX11_attempt_113 : decode cX11_attempt 113 = .ok (.iadd, 1) := by decide +kernel
theorem dX11_attempt_114 : decode cX11_attempt 114 = .ok (.iload 4, 2) := by decide +kernel
theorem dX11_attempt_116 : decode cX11_attempt 116 = .ok (.iastore, 1) := by decide +kernel
theorem dX11_attempt_117 : decode cX11_attempt 117 = .ok (.aload_n 0, 1) := by decide +kernel
theorem dX11_attempt_118 : decode cX11_attempt 118 = .ok (.getfield 55, 3) := by decide +kernel
theorem dX11_attempt_121 : decode cX11_attempt 121 = .ok (.iload 8, 2) := by decide +kernel
theorem dX11_attempt_123 : decode cX11_attempt 123 = .ok (.iconst 4, 1) := by decide +kernel
theorem dX11_attempt_124 : decode cX11_attempt 124 = .ok (.iadd, 1) := by decide +kernel
theorem dX11_attempt_125 : decode cX11_attempt 125 = .ok (.iload 5, 2) := by decide +kernel
theorem dX11_attempt_127 : decode cX11_attempt 127 = .ok (.iastore, 1) := by decide +kernel
theorem dX11_attempt_128 : decode cX11_attempt 128 = .ok (.aload_n 0, 1) := by decide +kernel
theorem dX11_attempt_129 : decode cX11_attempt 129 = .ok (.getfield 55, 3) := by decide +kernel
theorem dX11_attempt_132 : decode cX11_attempt 132 = .ok (.iload 8, 2) := by decide +kernel
theorem dX11_attempt_134 : decode cX11_attempt 134 = .ok (.iconst 5, 1) := by decide +kernel
theorem dX11_attempt_135 : decode cX11_attempt 135 = .ok (.iadd, 1) := by decide +kernel
theorem dX11_attempt_136 : decode cX11_attempt 136 = .ok (.iload 6, 2) := by decide +kernel
theorem dX11_attempt_138 : decode cX11_attempt 138 = .ok (.iastore, 1) := by decide +kernel
theorem dX11_attempt_139 : decode cX11_attempt 139 = .ok (.aload_n 0, 1) := by decide +kernel
theorem dX11_attempt_140 : decode cX11_attempt 140 = .ok (.getfield 55, 3) := by decide +kernel
theorem dX11_attempt_143 : decode cX11_attempt 143 = .ok (.iconst 1, 1) := by decide +kernel
theorem dX11_attempt_144 : decode cX11_attempt 144 = .ok (.dup2, 1) := by decide +kernel
theorem dX11_attempt_145 : decode cX11_attempt 145 = .ok (.iaload, 1) := by decide +kernel
theorem dX11_attempt_146 : decode cX11_attempt 146 = .ok (.iconst 1, 1) := by decide +kernel
theorem dX11_attempt_147 : decode cX11_attempt 147 = .ok (.iadd, 1) := by decide +kernel
theorem dX11_attempt_148 : decode cX11_attempt 148 = .ok (.iastore, 1) := by decide +kernel
theorem dX11_attempt_149 : decode cX11_attempt 149 = .ok (.iload 7, 2) := by decide +kernel
theorem dX11_attempt_151 : decode cX11_attempt 151 = .ok (.ireturn, 1) := by decide +kernel
theorem dX11_halved_0 : decode cX11_halved 0 = .ok (.iload_n 1, 1) := by decide +kernel
theorem dX11_halved_1 : decode cX11_halved 1 = .ok (.bipush 30, 2) := by decide +kernel
theorem dX11_halved_3 : decode cX11_halved 3 = .ok (.if_icmp .le 7, 3) := by decide +kernel
theorem dX11_halved_6 : decode cX11_halved 6 = .ok (.iconst 0, 1) := by decide +kernel
theorem dX11_halved_7 : decode cX11_halved 7 = .ok (.goto 6, 3) := by decide +kernel
theorem dX11_halved_10 : decode cX11_halved 10 = .ok (.iload_n 0, 1) := by decide +kernel
theorem dX11_halved_11 : decode cX11_halved 11 = .ok (.iload_n 1, 1) := by decide +kernel
theorem dX11_halved_12 : decode cX11_halved 12 = .ok (.ishr, 1) := by decide +kernel
theorem dX11_halved_13 : decode cX11_halved 13 = .ok (.ireturn, 1) := by decide +kernel
theorem dX11_strengthOf_0 : decode cX11_strengthOf 0 = .ok (.aload_n 0, 1) := by decide +kernel
theorem dX11_strengthOf_1 : decode cX11_strengthOf 1 = .ok (.getfield 31, 3) := by decide +kernel
theorem dX11_strengthOf_4 : decode cX11_strengthOf 4 = .ok (.bipush 6, 2) := by decide +kernel
theorem dX11_strengthOf_6 : decode cX11_strengthOf 6 = .ok (.iload_n 1, 1) := by decide +kernel
theorem dX11_strengthOf_7 : decode cX11_strengthOf 7 = .ok (.imul, 1) := by decide +kernel
theorem dX11_strengthOf_8 : decode cX11_strengthOf 8 = .ok (.iconst 3, 1) := by decide +kernel
theorem dX11_strengthOf_9 : decode cX11_strengthOf 9 = .ok (.iadd, 1) := by decide +kernel
theorem dX11_strengthOf_10 : decode cX11_strengthOf 10 = .ok (.iaload, 1) := by decide +kernel
theorem dX11_strengthOf_11 : decode cX11_strengthOf 11 = .ok (.iload_n 2, 1) := by decide +kernel
theorem dX11_strengthOf_12 : decode cX11_strengthOf 12 = .ok (.aload_n 0, 1) := by decide +kernel
theorem dX11_strengthOf_13 : decode cX11_strengthOf 13 = .ok (.getfield 31, 3) := by decide +kernel
theorem dX11_strengthOf_16 : decode cX11_strengthOf 16 = .ok (.bipush 6, 2) := by decide +kernel
theorem dX11_strengthOf_18 : decode cX11_strengthOf 18 = .ok (.iload_n 1, 1) := by decide +kernel
theorem dX11_strengthOf_19 : decode cX11_strengthOf 19 = .ok (.imul, 1) := by decide +kernel
theorem dX11_strengthOf_20 : decode cX11_strengthOf 20 = .ok (.iconst 4, 1) := by decide +kernel
theorem dX11_strengthOf_21 : decode cX11_strengthOf 21 = .ok (.iadd, 1) := by decide +kernel
theorem dX11_strengthOf_22 : decode cX11_strengthOf 22 = .ok (.iaload, 1) := by decide +kernel
theorem dX11_strengthOf_23 : decode cX11_strengthOf 23 = .ok (.idiv, 1) := by decide +kernel
theorem dX11_strengthOf_24 : decode cX11_strengthOf 24 = .ok (.invokestatic 228, 3) := by decide +kernel
theorem dX11_strengthOf_27 : decode cX11_strengthOf 27 = .ok (.sipush 1000, 3) := by decide +kernel
theorem dX11_strengthOf_30 : decode cX11_strengthOf 30 = .ok (.aload_n 0, 1) := by decide +kernel
theorem dX11_strengthOf_31 : decode cX11_strengthOf 31 = .ok (.getfield 31, 3) := by decide +kernel
theorem dX11_strengthOf_34 : decode cX11_strengthOf 34 = .ok (.bipush 6, 2) := by decide +kernel
theorem dX11_strengthOf_36 : decode cX11_strengthOf 36 = .ok (.iload_n 1, 1) := by decide +kernel
theorem dX11_strengthOf_37 : decode cX11_strengthOf 37 = .ok (.imul, 1) := by decide +kernel
theorem dX11_strengthOf_38 : decode cX11_strengthOf 38 = .ok (.iconst 3, 1) := by decide +kernel
theorem dX11_strengthOf_39 : decode cX11_strengthOf 39 = .ok (.iadd, 1) := by decide +kernel
theorem dX11_strengthOf_40 : decode cX11_strengthOf 40 = .ok (.iaload, 1) := by decide +kernel
theorem dX11_strengthOf_41 : decode cX11_strengthOf 41 = .ok (.isub, 1) := by decide +kernel
theorem dX11_strengthOf_42 : decode cX11_strengthOf 42 = .ok (.iload_n 2, 1) := by decide +kernel
theorem dX11_strengthOf_43 : decode cX11_strengthOf 43 = .ok (.aload_n 0, 1) := by decide +kernel
theorem dX11_strengthOf_44 : decode cX11_strengthOf 44 = .ok (.getfield 31, 3) := by decide +kernel
theorem dX11_strengthOf_47 : decode cX11_strengthOf 47 = .ok (.bipush 6, 2) := by decide +kernel
theorem dX11_strengthOf_49 : decode cX11_strengthOf 49 = .ok (.iload_n 1, 1) := by decide +kernel
theorem dX11_strengthOf_50 : decode cX11_strengthOf 50 = .ok (.imul, 1) := by decide +kernel
theorem dX11_strengthOf_51 : decode cX11_strengthOf 51 = .ok (.iconst 5, 1) := by decide +kernel
theorem dX11_strengthOf_52 : decode cX11_strengthOf 52 = .ok (.iadd, 1) := by decide +kernel
theorem dX11_strengthOf_53 : decode cX11_strengthOf 53 = .ok (.iaload, 1) := by decide +kernel
theorem dX11_strengthOf_54 : decode cX11_strengthOf 54 = .ok (.idiv, 1) := by decide +kernel
theorem dX11_strengthOf_55 : decode cX11_strengthOf 55 = .ok (.invokestatic 228, 3) := by decide +kernel
theorem dX11_strengthOf_58 : decode cX11_strengthOf 58 = .ok (.iadd, 1) := by decide +kernel
theorem dX11_strengthOf_59 : decode cX11_strengthOf 59 = .ok (.ireturn, 1) := by decide +kernel
theorem dX11_partOf_0 : decode cX11_partOf 0 = .ok (.iload_n 2, 1) := by decide +kernel
theorem dX11_partOf_1 : decode cX11_partOf 1 = .ok (.aload_n 0, 1) := by decide +kernel
theorem dX11_partOf_2 : decode cX11_partOf 2 = .ok (.getfield 31, 3) := by decide +kernel
theorem dX11_partOf_5 : decode cX11_partOf 5 = .ok (.bipush 6, 2) := by decide +kernel
theorem dX11_partOf_7 : decode cX11_partOf 7 = .ok (.iload_n 1, 1) := by decide +kernel
theorem dX11_partOf_8 : decode cX11_partOf 8 = .ok (.imul, 1) := by decide +kernel
theorem dX11_partOf_9 : decode cX11_partOf 9 = .ok (.iload 4, 2) := by decide +kernel
theorem dX11_partOf_11 : decode cX11_partOf 11 = .ok (.iadd, 1) := by decide +kernel
theorem dX11_partOf_12 : decode cX11_partOf 12 = .ok (.iaload, 1) := by decide +kernel
theorem dX11_partOf_13 : decode cX11_partOf 13 = .ok (.imul, 1) := by decide +kernel
theorem dX11_partOf_14 : decode cX11_partOf 14 = .ok (.aload_n 0, 1) := by decide +kernel
theorem dX11_partOf_15 : decode cX11_partOf 15 = .ok (.iload_n 1, 1) := by decide +kernel
theorem dX11_partOf_16 : decode cX11_partOf 16 = .ok (.iload_n 3, 1) := by decide +kernel
theorem dX11_partOf_17 : decode cX11_partOf 17 = .ok (.invokevirtual 238, 3) := by decide +kernel
theorem dX11_partOf_20 : decode cX11_partOf 20 = .ok (.imul, 1) := by decide +kernel
theorem dX11_partOf_21 : decode cX11_partOf 21 = .ok (.sipush 9000, 3) := by decide +kernel
theorem dX11_partOf_24 : decode cX11_partOf 24 = .ok (.idiv, 1) := by decide +kernel
theorem dX11_partOf_25 : decode cX11_partOf 25 = .ok (.ireturn, 1) := by decide +kernel
theorem dX11_colourOf_0 : decode cX11_colourOf 0 = .ok (.bipush 99, 2) := by decide +kernel
theorem dX11_colourOf_2 : decode cX11_colourOf 2 = .ok (.aload_n 0, 1) := by decide +kernel
theorem dX11_colourOf_3 : decode cX11_colourOf 3 = .ok (.aload_n 0, 1) := by decide +kernel
theorem dX11_colourOf_4 : decode cX11_colourOf 4 = .ok (.getfield 43, 3) := by decide +kernel
theorem dX11_colourOf_7 : decode cX11_colourOf 7 = .ok (.iload_n 1, 1) := by decide +kernel
theorem dX11_colourOf_8 : decode cX11_colourOf 8 = .ok (.iaload, 1) := by decide +kernel
theorem dX11_colourOf_9 : decode cX11_colourOf 9 = .ok (.aload_n 0, 1) := by decide +kernel
theorem dX11_colourOf_10 : decode cX11_colourOf 10 = .ok (.getfield 46, 3) := by decide +kernel
theorem dX11_colourOf_13 : decode cX11_colourOf 13 = .ok (.iload_n 1, 1) := by decide +kernel
theorem dX11_colourOf_14 : decode cX11_colourOf 14 = .ok (.iaload, 1) := by decide +kernel
theorem dX11_colourOf_15 : decode cX11_colourOf 15 = .ok (.iload_n 2, 1) := by decide +kernel
theorem dX11_colourOf_16 : decode cX11_colourOf 16 = .ok (.iload_n 3, 1) := by decide +kernel
theorem dX11_colourOf_17 : decode cX11_colourOf 17 = .ok (.invokevirtual 248, 3) := by decide +kernel
theorem dX11_colourOf_20 : decode cX11_colourOf 20 = .ok (.isub, 1) := by decide +kernel
theorem dX11_colourOf_21 : decode cX11_colourOf 21 = .ok (.aload_n 0, 1) := by decide +kernel
theorem dX11_colourOf_22 : decode cX11_colourOf 22 = .ok (.getfield 49, 3) := by decide +kernel
theorem dX11_colourOf_25 : decode cX11_colourOf 25 = .ok (.iload_n 1, 1) := by decide +kernel
theorem dX11_colourOf_26 : decode cX11_colourOf 26 = .ok (.iaload, 1) := by decide +kernel
theorem dX11_colourOf_27 : decode cX11_colourOf 27 = .ok (.iconst (-1), 1) := by decide +kernel
theorem dX11_colourOf_28 : decode cX11_colourOf 28 = .ok (.if_icmp .ne 7, 3) := by decide +kernel
theorem dX11_colourOf_31 : decode cX11_colourOf 31 = .ok (.iconst 0, 1) := by decide +kernel
theorem dX11_colourOf_32 : decode cX11_colourOf 32 = .ok (.goto 21, 3) := by decide +kernel
theorem dX11_colourOf_35 : decode cX11_colourOf 35 = .ok (.aload_n 0, 1) := by decide +kernel
theorem dX11_colourOf_36 : decode cX11_colourOf 36 = .ok (.aload_n 0, 1) := by decide +kernel
theorem dX11_colourOf_37 : decode cX11_colourOf 37 = .ok (.getfield 49, 3) := by decide +kernel
theorem dX11_colourOf_40 : decode cX11_colourOf 40 = .ok (.iload_n 1, 1) := by decide +kernel
theorem dX11_colourOf_41 : decode cX11_colourOf 41 = .ok (.iaload, 1) := by decide +kernel
theorem dX11_colourOf_42 : decode cX11_colourOf 42 = .ok (.aload_n 0, 1) := by decide +kernel
theorem dX11_colourOf_43 : decode cX11_colourOf 43 = .ok (.getfield 52, 3) := by decide +kernel
theorem dX11_colourOf_46 : decode cX11_colourOf 46 = .ok (.iload_n 1, 1) := by decide +kernel
theorem dX11_colourOf_47 : decode cX11_colourOf 47 = .ok (.iaload, 1) := by decide +kernel
theorem dX11_colourOf_48 : decode cX11_colourOf 48 = .ok (.iload_n 2, 1) := by decide +kernel
theorem dX11_colourOf_49 : decode cX11_colourOf 49 = .ok (.iload_n 3, 1) := by decide +kernel
theorem dX11_colourOf_50 : decode cX11_colourOf 50 = .ok (.invokevirtual 248, 3) := by decide +kernel
theorem dX11_colourOf_53 : decode cX11_colourOf 53 = .ok (.isub, 1) := by decide +kernel
theorem dX11_colourOf_54 : decode cX11_colourOf 54 = .ok (.istore 4, 2) := by decide +kernel
theorem dX11_colourOf_56 : decode cX11_colourOf 56 = .ok (.iload 4, 2) := by decide +kernel
theorem dX11_colourOf_58 : decode cX11_colourOf 58 = .ok (.ifCond .ge 7, 3) := by decide +kernel
theorem dX11_colourOf_61 : decode cX11_colourOf 61 = .ok (.iconst 0, 1) := by decide +kernel
theorem dX11_colourOf_62 : decode cX11_colourOf 62 = .ok (.goto 5, 3) := by decide +kernel
theorem dX11_colourOf_65 : decode cX11_colourOf 65 = .ok (.iload 4, 2) := by decide +kernel
theorem dX11_colourOf_67 : decode cX11_colourOf 67 = .ok (.ireturn, 1) := by decide +kernel
theorem dX11_bears_0 : decode cX11_bears 0 = .ok (.iconst 0, 1) := by decide +kernel
theorem dX11_bears_1 : decode cX11_bears 1 = .ok (.istore 5, 2) := by decide +kernel
theorem dX11_bears_3 : decode cX11_bears 3 = .ok (.iload 5, 2) := by decide +kernel
theorem dX11_bears_5 : decode cX11_bears 5 = .ok (.iconst 3, 1) := by decide +kernel
theorem dX11_bears_6 : decode cX11_bears 6 = .ok (.if_icmp .ge 35, 3) := by decide +kernel
theorem dX11_bears_9 : decode cX11_bears 9 = .ok (.aload_n 0, 1) := by decide +kernel
theorem dX11_bears_10 : decode cX11_bears 10 = .ok (.iload_n 1, 1) := by decide +kernel
theorem dX11_bears_11 : decode cX11_bears 11 = .ok (.iload_n 2, 1) := by decide +kernel
theorem dX11_bears_12 : decode cX11_bears 12 = .ok (.iload_n 3, 1) := by decide +kernel
theorem dX11_bears_13 : decode cX11_bears 13 = .ok (.iadd, 1) := by decide +kernel
theorem dX11_bears_14 : decode cX11_bears 14 = .ok (.iload 5, 2) := by decide +kernel
theorem dX11_bears_16 : decode cX11_bears 16 = .ok (.invokevirtual 257, 3) := by decide +kernel
theorem dX11_bears_19 : decode cX11_bears 19 = .ok (.aload_n 0, 1) := by decide +kernel
theorem dX11_bears_20 : decode cX11_bears 20 = .ok (.iload_n 1, 1) := by decide +kernel
theorem dX11_bears_21 : decode cX11_bears 21 = .ok (.iload_n 2, 1) := by decide +kernel
theorem dX11_bears_22 : decode cX11_bears 22 = .ok (.iload 5, 2) := by decide +kernel
theorem dX11_bears_24 : decode cX11_bears 24 = .ok (.invokevirtual 257, 3) := by decide +kernel
theorem dX11_bears_27 : decode cX11_bears 27 = .ok (.isub, 1) := by decide +kernel
theorem dX11_bears_28 : decode cX11_bears 28 = .ok (.iload 4, 2) := by decide +kernel
theorem dX11_bears_30 : decode cX11_bears 30 = .ok (.if_icmp .le 5, 3) := by decide +kernel
theorem dX11_bears_33 : decode cX11_bears 33 = .ok (.iconst 0, 1) := by decide +kernel
theorem dX11_bears_34 : decode cX11_bears 34 = .ok (.ireturn, 1) := by decide +kernel
theorem dX11_bears_35 : decode cX11_bears 35 = .ok (.iinc 5 1, 3) := by decide +kernel
theorem dX11_bears_38 : decode cX11_bears 38 = .ok (.goto (-35), 3) := by decide +kernel
theorem dX11_bears_41 : decode cX11_bears 41 = .ok (.iconst 1, 1) := by decide +kernel
theorem dX11_bears_42 : decode cX11_bears 42 = .ok (.ireturn, 1) := by decide +kernel
theorem dX11_lookAt_0 : decode cX11_lookAt 0 = .ok (.iconst (-1), 1) := by decide +kernel
theorem dX11_lookAt_1 : decode cX11_lookAt 1 = .ok (.istore 4, 2) := by decide +kernel
theorem dX11_lookAt_3 : decode cX11_lookAt 3 = .ok (.iconst 0, 1) := by decide +kernel
theorem dX11_lookAt_4 : decode cX11_lookAt 4 = .ok (.istore 5, 2) := by decide +kernel
theorem dX11_lookAt_6 : decode cX11_lookAt 6 = .ok (.iload 5, 2) := by decide +kernel
theorem dX11_lookAt_8 : decode cX11_lookAt 8 = .ok (.aload_n 0, 1) := by decide +kernel
theorem dX11_lookAt_9 : decode cX11_lookAt 9 = .ok (.getfield 55, 3) := by decide +kernel
theorem dX11_lookAt_12 : decode cX11_lookAt 12 = .ok (.iconst 0, 1) := by decide +kernel
theorem dX11_lookAt_13 : decode cX11_lookAt 13 = .ok (.iaload, 1) := by decide +kernel
theorem dX11_lookAt_14 : decode cX11_lookAt 14 = .ok (.if_icmp .ge 59, 3) := by decide +kernel
theorem dX11_lookAt_17 : decode cX11_lookAt 17 = .ok (.iconst 4, 1) := by decide +kernel
theorem dX11_lookAt_18 : decode cX11_lookAt 18 = .ok (.bipush 7, 2) := by decide +kernel
theorem dX11_lookAt_20 : decode cX11_lookAt 20 = .ok (.iload 5, 2) := by decide +kernel
theorem dX11_lookAt_22 : decode cX11_lookAt 22 = .ok (.imul, 1) := by decide +kernel
theorem dX11_lookAt_23 : decode cX11_lookAt 23 = .ok (.iadd, 1) := by decide +kernel
theorem dX11_lookAt_24 : decode cX11_lookAt 24 = .ok (.istore 6, 2) := by decide +kernel
theorem dX11_lookAt_26 : decode cX11_lookAt 26 = .ok (.aload_n 0, 1) := by decide +kernel
theorem dX11_lookAt_27 : decode cX11_lookAt 27 = .ok (.getfield 55, 3) := by decide +kernel
theorem dX11_lookAt_30 : decode cX11_lookAt 30 = .ok (.iload 6, 2) := by decide +kernel
theorem dX11_lookAt_32 : decode cX11_lookAt 32 = .ok (.iaload, 1) := by decide +kernel
theorem dX11_lookAt_33 : decode cX11_lookAt 33 = .ok (.iload_n 3, 1) := by decide +kernel
theorem dX11_lookAt_34 : decode cX11_lookAt 34 = .ok (.if_icmp .gt 33, 3) := by decide +kernel
theorem dX11_lookAt_37 : decode cX11_lookAt 37 = .ok (.aload_n 0, 1) := by decide +kernel
theorem dX11_lookAt_38 : decode cX11_lookAt 38 = .ok (.getfield 55, 3) := by decide +kernel
theorem dX11_lookAt_41 : decode cX11_lookAt 41 = .ok (.iload 6, 2) := by decide +kernel
theorem dX11_lookAt_43 : decode cX11_lookAt 43 = .ok (.iconst 1, 1) := by decide +kernel
theorem dX11_lookAt_44 : decode cX11_lookAt 44 = .ok (.iadd, 1) := by decide +kernel
theorem dX11_lookAt_45 : decode cX11_lookAt 45 = .ok (.iaload, 1) := by decide +kernel
theorem dX11_lookAt_46 : decode cX11_lookAt 46 = .ok (.iload_n 1, 1) := by decide +kernel
theorem dX11_lookAt_47 : decode cX11_lookAt 47 = .ok (.if_icmp .ne 20, 3) := by decide +kernel
theorem dX11_lookAt_50 : decode cX11_lookAt 50 = .ok (.aload_n 0, 1) := by decide +kernel
theorem dX11_lookAt_51 : decode cX11_lookAt 51 = .ok (.getfield 55, 3) := by decide +kernel
theorem dX11_lookAt_54 : decode cX11_lookAt 54 = .ok (.iload 6, 2) := by decide +kernel
theorem dX11_lookAt_56 : decode cX11_lookAt 56 = .ok (.iconst 2, 1) := by decide +kernel
theorem dX11_lookAt_57 : decode cX11_lookAt 57 = .ok (.iadd, 1) := by decide +kernel
theorem dX11_lookAt_58 : decode cX11_lookAt 58 = .ok (.iaload, 1) := by decide +kernel
theorem dX11_lookAt_59 : decode cX11_lookAt 59 = .ok (.iload_n 2, 1) := by decide +kernel
theorem dX11_lookAt_60 : decode cX11_lookAt 60 = .ok (.if_icmp .ne 7, 3) := by decide +kernel
theorem dX11_lookAt_63 : decode cX11_lookAt 63 = .ok (.iload 6, 2) := by decide +kernel
theorem dX11_lookAt_65 : decode cX11_lookAt 65 = .ok (.istore 4, 2) := by decide +kernel
theorem dX11_lookAt_67 : decode cX11_lookAt 67 = .ok (.iinc 5 1, 3) := by decide +kernel
theorem dX11_lookAt_70 : decode cX11_lookAt 70 = .ok (.goto (-64), 3) := by decide +kernel
theorem dX11_lookAt_73 : decode cX11_lookAt 73 = .ok (.iload 4, 2) := by decide +kernel
theorem dX11_lookAt_75 : decode cX11_lookAt 75 = .ok (.ireturn, 1) := by decide +kernel
theorem dX11_findWords_0 : decode cX11_findWords 0 = .ok (.aload_n 0, 1) := by decide +kernel
theorem dX11_findWords_1 : decode cX11_findWords 1 = .ok (.iconst 0, 1) := by decide +kernel
theorem dX11_findWords_2 : decode cX11_findWords 2 = .ok (.putfield 283, 3) := by decide +kernel
theorem dX11_findWords_5 : decode cX11_findWords 5 = .ok (.iconst 0, 1) := by decide +kernel
theorem dX11_findWords_6 : decode cX11_findWords 6 = .ok (.istore_n 3, 1) := by decide +kernel
theorem dX11_findWords_7 : decode cX11_findWords 7 = .ok (.iload_n 3, 1) := by decide +kernel
theorem dX11_findWords_8 : decode cX11_findWords 8 = .ok (.iconst 2, 1) := by decide +kernel
theorem dX11_findWords_9 : decode cX11_findWords 9 = .ok (.if_icmp .ge 46, 3) := by decide +kernel
theorem dX11_findWords_12 : decode cX11_findWords 12 = .ok (.aload_n 0, 1) := by decide +kernel
theorem dX11_findWords_13 : decode cX11_findWords 13 = .ok (.iload_n 1, 1) := by decide +kernel
theorem dX11_findWords_14 : decode cX11_findWords 14 = .ok (.iload_n 3, 1) := by decide +kernel
theorem dX11_findWords_15 : decode cX11_findWords 15 = .ok (.iload_n 2, 1) := by decide +kernel
theorem dX11_findWords_16 : decode cX11_findWords 16 = .ok (.invokevirtual 277, 3) := by decide +kernel
theorem dX11_findWords_19 : decode cX11_findWords 19 = .ok (.istore 4, 2) := by decide +kernel
theorem dX11_findWords_21 : decode cX11_findWords 21 = .ok (.iload 4, 2) := by decide +kernel
theorem dX11_findWords_23 : decode cX11_findWords 23 = .ok (.ifCond .lt 26, 3) := by decide +kernel
theorem dX11_findWords_26 : decode cX11_findWords 26 = .ok (.aload_n 0, 1) := by decide +kernel
theorem dX11_findWords_27 : decode cX11_findWords 27 = .ok (.getfield 55, 3) := by decide +kernel
theorem dX11_findWords_30 : decode cX11_findWords 30 = .ok (.iload 4, 2) := by decide +kernel
theorem dX11_findWords_32 : decode cX11_findWords 32 = .ok (.bipush 6, 2) := by decide +kernel
theorem dX11_findWords_34 : decode cX11_findWords 34 = .ok (.iadd, 1) := by decide +kernel
theorem dX11_findWords_35 : decode cX11_findWords 35 = .ok (.iaload, 1) := by decide +kernel
theorem dX11_findWords_36 : decode cX11_findWords 36 = .ok (.ifCond .ne 13, 3) := by decide +kernel
theorem dX11_findWords_39 : decode cX11_findWords 39 = .ok (.aload_n 0, 1) := by decide +kernel
theorem dX11_findWords_40 : decode cX11_findWords 40 = .ok (.iconst 0, 1) := by decide +kernel
theorem dX11_findWords_41 : decode cX11_findWords 41 = .ok (.iload_n 3, 1) := by decide +kernel
theorem dX11_findWords_42 : decode cX11_findWords 42 = .ok (.iload 4, 2) := by decide +kernel
theorem dX11_findWords_44 : decode cX11_findWords 44 = .ok (.iconst 3, 1) := by decide +kernel
theorem dX11_findWords_45 : decode cX11_findWords 45 = .ok (.iadd, 1) := by decide +kernel
theorem dX11_findWords_46 : decode cX11_findWords 46 = .ok (.invokevirtual 286, 3) := by decide +kernel
theorem dX11_findWords_49 : decode cX11_findWords 49 = .ok (.iinc 3 1, 3) := by decide +kernel
theorem dX11_findWords_52 : decode cX11_findWords 52 = .ok (.goto (-45), 3) := by decide +kernel
theorem dX11_findWords_55 : decode cX11_findWords 55 = .ok (.iconst 0, 1) := by decide +kernel
theorem dX11_findWords_56 : decode cX11_findWords 56 = .ok (.istore_n 3, 1) := by decide +kernel
theorem dX11_findWords_57 : decode cX11_findWords 57 = .ok (.iload_n 3, 1) := by decide +kernel
theorem dX11_findWords_58 : decode cX11_findWords 58 = .ok (.aload_n 0, 1) := by decide +kernel
theorem dX11_findWords_59 : decode cX11_findWords 59 = .ok (.getfield 55, 3) := by decide +kernel
theorem dX11_findWords_62 : decode cX11_findWords 62 = .ok (.iconst 1, 1) := by decide +kernel
theorem dX11_findWords_63 : decode cX11_findWords 63 = .ok (.iaload, 1) := by decide +kernel
theorem dX11_findWords_64 : decode cX11_findWords 64 = .ok (.if_icmp .ge 136, 3) := by decide +kernel
theorem dX11_findWords_67 : decode cX11_findWords 67 = .ok (.sipush 634, 3) := by decide +kernel
theorem dX11_findWords_70 : decode cX11_findWords 70 = .ok (.bipush 6, 2) := by decide +kernel
theorem dX11_findWords_72 : decode cX11_findWords 72 = .ok (.iload_n 3, 1) := by decide +kernel
theorem dX11_findWords_73 : decode cX11_findWords 73 = .ok (.imul, 1) := by decide +kernel
theorem dX11_findWords_74 : decode cX11_findWords 74 = .ok (.iadd, 1) := by decide +kernel
theorem dX11_findWords_75 : decode cX11_findWords 75 = .ok (.istore 4, 2) := by decide +kernel
theorem dX11_findWords_77 : decode cX11_findWords 77 = .ok (.aload_n 0, 1) := by decide +kernel
theorem dX11_findWords_78 : decode cX11_findWords 78 = .ok (.getfield 55, 3) := by decide +kernel
theorem dX11_findWords_81 : decode cX11_findWords 81 = .ok (.iload 4, 2) := by decide +kernel
theorem dX11_findWords_83 : decode cX11_findWords 83 = .ok (.iaload, 1) := by decide +kernel
theorem dX11_findWords_84 : decode cX11_findWords 84 = .ok (.iload_n 2, 1) := by decide +kernel
theorem dX11_findWords_85 : decode cX11_findWords 85 = .ok (.if_icmp .gt 109, 3) := by decide +kernel
theorem dX11_findWords_88 : decode cX11_findWords 88 = .ok (.aload_n 0, 1) := by decide +kernel
theorem dX11_findWords_89 : decode cX11_findWords 89 = .ok (.getfield 55, 3) := by decide +kernel
theorem dX11_findWords_92 : decode cX11_findWords 92 = .ok (.iload 4, 2) := by decide +kernel
theorem dX11_findWords_94 : decode cX11_findWords 94 = .ok (.iconst 1, 1) := by decide +kernel
theorem dX11_findWords_95 : decode cX11_findWords 95 = .ok (.iadd, 1) := by decide +kernel
theorem dX11_findWords_96 : decode cX11_findWords 96 = .ok (.iaload, 1) := by decide +kernel
theorem dX11_findWords_97 : decode cX11_findWords 97 = .ok (.iload_n 1, 1) := by decide +kernel
theorem dX11_findWords_98 : decode cX11_findWords 98 = .ok (.if_icmp .eq 6, 3) := by decide +kernel
theorem dX11_findWords_101 : decode cX11_findWords 101 = .ok (.goto 93, 3) := by decide +kernel
theorem dX11_findWords_104 : decode cX11_findWords 104 = .ok (.iload 4, 2) := by decide +kernel
theorem dX11_findWords_106 : decode cX11_findWords 106 = .ok (.iconst 3, 1) := by decide +kernel
theorem dX11_findWords_107 : decode cX11_findWords 107 = .ok (.iadd, 1) := by decide +kernel
theorem dX11_findWords_108 : decode cX11_findWords 108 = .ok (.istore 5, 2) := by decide +kernel
theorem dX11_findWords_110 : decode cX11_findWords 110 = .ok (.iconst 0, 1) := by decide +kernel
theorem dX11_findWords_111 : decode cX11_findWords 111 = .ok (.istore 6, 2) := by decide +kernel
theorem dX11_findWords_113 : decode cX11_findWords 113 = .ok (.iload 6, 2) := by decide +kernel
theorem dX11_findWords_115 : decode cX11_findWords 115 = .ok (.aload_n 0, 1) := by decide +kernel
theorem dX11_findWords_116 : decode cX11_findWords 116 = .ok (.getfield 55, 3) := by decide +kernel
theorem dX11_findWords_119 : decode cX11_findWords 119 = .ok (.iconst 2, 1) := by decide +kernel
theorem dX11_findWords_120 : decode cX11_findWords 120 = .ok (.iaload, 1) := by decide +kernel
theorem dX11_findWords_121 : decode cX11_findWords 121 = .ok (.if_icmp .ge 57, 3) := by decide +kernel
theorem dX11_findWords_124 : decode cX11_findWords 124 = .ok (.aload_n 0, 1) := by decide +kernel
theorem dX11_findWords_125 : decode cX11_findWords 125 = .ok (.getfield 55, 3) := by decide +kernel
theorem dX11_findWords_128 : decode cX11_findWords 128 = .ok (.sipush 754, 3) := by decide +kernel
theorem dX11_findWords_131 : decode cX11_findWords 131 = .ok (.iconst 5, 1) := by decide +kernel
theorem dX11_findWords_132 : decode cX11_findWords 132 = .ok (.iload 6, 2) := by decide +kernel
theorem dX11_findWords_134 : decode cX11_findWords 134 = .ok (.imul, 1) := by decide +kernel
theorem dX11_findWords_135 : decode cX11_findWords 135 = .ok (.iadd, 1) := by decide +kernel
theorem dX11_findWords_136 : decode cX11_findWords 136 = .ok (.iconst 1, 1) := by decide +kernel
theorem dX11_findWords_137 : decode cX11_findWords 137 = .ok (.iadd, 1) := by decide +kernel
theorem dX11_findWords_138 : decode cX11_findWords 138 = .ok (.iaload, 1) := by decide +kernel
theorem dX11_findWords_139 : decode cX11_findWords 139 = .ok (.iload_n 3, 1) := by decide +kernel
theorem dX11_findWords_140 : decode cX11_findWords 140 = .ok (.if_icmp .ne 32, 3) := by decide +kernel
theorem dX11_findWords_143 : decode cX11_findWords 143 = .ok (.aload_n 0, 1) := by decide +kernel
theorem dX11_findWords_144 : decode cX11_findWords 144 = .ok (.getfield 55, 3) := by decide +kernel
theorem dX11_findWords_147 : decode cX11_findWords 147 = .ok (.sipush 754, 3) := by decide +kernel
theorem dX11_findWords_150 : decode cX11_findWords 150 = .ok (.iconst 5, 1) := by decide +kernel
theorem dX11_findWords_151 : decode cX11_findWords 151 = .ok (.iload 6, 2) := by decide +kernel
theorem dX11_findWords_153 : decode cX11_findWords 153 = .ok (.imul, 1) := by decide +kernel
theorem dX11_findWords_154 : decode cX11_findWords 154 = .ok (.iadd, 1) := by decide +kernel
theorem dX11_findWords_155 : decode cX11_findWords 155 = .ok (.iaload, 1) := by decide +kernel
theorem dX11_findWords_156 : decode cX11_findWords 156 = .ok (.iload_n 2, 1) := by decide +kernel
theorem dX11_findWords_157 : decode cX11_findWords 157 = .ok (.if_icmp .gt 15, 3) := by decide +kernel
theorem dX11_findWords_160 : decode cX11_findWords 160 = .ok (.sipush 754, 3) := by decide +kernel
theorem dX11_findWords_163 : decode cX11_findWords 163 = .ok (.iconst 5, 1) := by decide +kernel
theorem dX11_findWords_164 : decode cX11_findWords 164 = .ok (.iload 6, 2) := by decide +kernel
theorem dX11_findWords_166 : decode cX11_findWords 166 = .ok (.imul, 1) := by decide +kernel
theorem dX11_findWords_167 : decode cX11_findWords 167 = .ok (.iadd, 1) := by decide +kernel
theorem dX11_findWords_168 : decode cX11_findWords 168 = .ok (.iconst 2, 1) := by decide +kernel
theorem dX11_findWords_169 : decode cX11_findWords 169 = .ok (.iadd, 1) := by decide +kernel
theorem dX11_findWords_170 : decode cX11_findWords 170 = .ok (.istore 5, 2) := by decide +kernel
theorem dX11_findWords_172 : decode cX11_findWords 172 = .ok (.iinc 6 1, 3) := by decide +kernel
theorem dX11_findWords_175 : decode cX11_findWords 175 = .ok (.goto (-62), 3) := by decide +kernel
theorem dX11_findWords_178 : decode cX11_findWords 178 = .ok (.aload_n 0, 1) := by decide +kernel
theorem dX11_findWords_179 : decode cX11_findWords 179 = .ok (.aload_n 0, 1) := by decide +kernel
theorem dX11_findWords_180 : decode cX11_findWords 180 = .ok (.getfield 55, 3) := by decide +kernel
theorem dX11_findWords_183 : decode cX11_findWords 183 = .ok (.iload 4, 2) := by decide +kernel
theorem dX11_findWords_185 : decode cX11_findWords 185 = .ok (.iconst 2, 1) := by decide +kernel
theorem dX11_findWords_186 : decode cX11_findWords 186 = .ok (.iadd, 1) := by decide +kernel
theorem dX11_findWords_187 : decode cX11_findWords 187 = .ok (.iaload, 1) := by decide +kernel
theorem dX11_findWords_188 : decode cX11_findWords 188 = .ok (.iconst 0, 1) := by decide +kernel
theorem dX11_findWords_189 : decode cX11_findWords 189 = .ok (.iload 5, 2) := by decide +kernel
theorem dX11_findWords_191 : decode cX11_findWords 191 = .ok (.invokevirtual 286, 3) := by decide +kernel
theorem dX11_findWords_194 : decode cX11_findWords 194 = .ok (.iinc 3 1, 3) := by decide +kernel
theorem dX11_findWords_197 : decode cX11_findWords 197 = .ok (.goto (-140), 3) := by decide +kernel
theorem dX11_findWords_200 : decode cX11_findWords 200 = .ok (.return_, 1) := by decide +kernel
theorem dX11_lightAt_0 : decode cX11_lightAt 0 = .ok (.aload_n 0, 1) := by decide +kernel
theorem dX11_lightAt_1 : decode cX11_lightAt 1 = .ok (.getfield 37, 3) := by decide +kernel
theorem dX11_lightAt_4 : decode cX11_lightAt 4 = .ok (.iconst 4, 1) := by decide +kernel
theorem dX11_lightAt_5 : decode cX11_lightAt 5 = .ok (.iload_n 1, 1) := by decide +kernel
theorem dX11_lightAt_6 : decode cX11_lightAt 6 = .ok (.imul, 1) := by decide +kernel
theorem dX11_lightAt_7 : decode cX11_lightAt 7 = .ok (.iconst 1, 1) := by decide +kernel
theorem dX11_lightAt_8 : decode cX11_lightAt 8 = .ok (.iadd, 1) := by decide +kernel
theorem dX11_lightAt_9 : decode cX11_lightAt 9 = .ok (.iaload, 1) := by decide +kernel
theorem dX11_lightAt_10 : decode cX11_lightAt 10 = .ok (.istore_n 3, 1) := by decide +kernel
theorem dX11_lightAt_11 : decode cX11_lightAt 11 = .ok (.aload_n 0, 1) := by decide +kernel
theorem dX11_lightAt_12 : decode cX11_lightAt 12 = .ok (.getfield 17, 3) := by decide +kernel
theorem dX11_lightAt_15 : decode cX11_lightAt 15 = .ok (.iconst 0, 1) := by decide +kernel
theorem dX11_lightAt_16 : decode cX11_lightAt 16 = .ok (.iaload, 1) := by decide +kernel
theorem dX11_lightAt_17 : decode cX11_lightAt 17 = .ok (.iconst 1, 1) := by decide +kernel
theorem dX11_lightAt_18 : decode cX11_lightAt 18 = .ok (.if_icmp .ne 7, 3) := by decide +kernel
theorem dX11_lightAt_21 : decode cX11_lightAt 21 = .ok (.iload_n 3, 1) := by decide +kernel
theorem dX11_lightAt_22 : decode cX11_lightAt 22 = .ok (.goto 28, 3) := by decide +kernel
theorem dX11_lightAt_25 : decode cX11_lightAt 25 = .ok (.iload_n 3, 1) := by decide +kernel
theorem dX11_lightAt_26 : decode cX11_lightAt 26 = .ok (.aload_n 0, 1) := by decide +kernel
theorem dX11_lightAt_27 : decode cX11_lightAt 27 = .ok (.getfield 37, 3) := by decide +kernel
theorem dX11_lightAt_30 : decode cX11_lightAt 30 = .ok (.iconst 4, 1) := by decide +kernel
theorem dX11_lightAt_31 : decode cX11_lightAt 31 = .ok (.iload_n 1, 1) := by decide +kernel
theorem dX11_lightAt_32 : decode cX11_lightAt 32 = .ok (.imul, 1) := by decide +kernel
theorem dX11_lightAt_33 : decode cX11_lightAt 33 = .ok (.iconst 2, 1) := by decide +kernel
theorem dX11_lightAt_34 : decode cX11_lightAt 34 = .ok (.iadd, 1) := by decide +kernel
theorem dX11_lightAt_35 : decode cX11_lightAt 35 = .ok (.iaload, 1) := by decide +kernel
theorem dX11_lightAt_36 : decode cX11_lightAt 36 = .ok (.iload_n 3, 1) := by decide +kernel
theorem dX11_lightAt_37 : decode cX11_lightAt 37 = .ok (.isub, 1) := by decide +kernel
theorem dX11_lightAt_38 : decode cX11_lightAt 38 = .ok (.iload_n 2, 1) := by decide +kernel
theorem dX11_lightAt_39 : decode cX11_lightAt 39 = .ok (.imul, 1) := by decide +kernel
theorem dX11_lightAt_40 : decode cX11_lightAt 40 = .ok (.aload_n 0, 1) := by decide +kernel
theorem dX11_lightAt_41 : decode cX11_lightAt 41 = .ok (.getfield 17, 3) := by decide +kernel
theorem dX11_lightAt_44 : decode cX11_lightAt 44 = .ok (.iconst 0, 1) := by decide +kernel
theorem dX11_lightAt_45 : decode cX11_lightAt 45 = .ok (.iaload, 1) := by decide +kernel
theorem dX11_lightAt_46 : decode cX11_lightAt 46 = .ok (.iconst 1, 1) := by decide +kernel
theorem dX11_lightAt_47 : decode cX11_lightAt 47 = .ok (.isub, 1) := by decide +kernel
theorem dX11_lightAt_48 : decode cX11_lightAt 48 = .ok (.idiv, 1) := by decide +kernel
theorem dX11_lightAt_49 : decode cX11_lightAt 49 = .ok (.iadd, 1) := by decide +kernel
theorem dX11_lightAt_50 : decode cX11_lightAt 50 = .ok (.ireturn, 1) := by decide +kernel
theorem dX11_hoursOf_0 : decode cX11_hoursOf 0 = .ok (.iconst 0, 1) := by decide +kernel
theorem dX11_hoursOf_1 : decode cX11_hoursOf 1 = .ok (.istore 5, 2) := by decide +kernel
theorem dX11_hoursOf_3 : decode cX11_hoursOf 3 = .ok (.iconst 0, 1) := by decide +kernel
theorem dX11_hoursOf_4 : decode cX11_hoursOf 4 = .ok (.istore 6, 2) := by decide +kernel
theorem dX11_hoursOf_6 : decode cX11_hoursOf 6 = .ok (.iconst 0, 1) := by decide +kernel
theorem dX11_hoursOf_7 : decode cX11_hoursOf 7 = .ok (.istore 7, 2) := by decide +kernel
theorem dX11_hoursOf_9 : decode cX11_hoursOf 9 = .ok (.iload 7, 2) := by decide +kernel
theorem dX11_hoursOf_11 : decode cX11_hoursOf 11 = .ok (.aload_n 0, 1) := by decide +kernel
theorem dX11_hoursOf_12 : decode cX11_hoursOf 12 = .ok (.getfield 34, 3) := by decide +kernel
theorem dX11_hoursOf_15 : decode cX11_hoursOf 15 = .ok (.iload_n 1, 1) := by decide +kernel
theorem dX11_hoursOf_16 : decode cX11_hoursOf 16 = .ok (.iaload, 1) := by decide +kernel
theorem dX11_hoursOf_17 : decode cX11_hoursOf 17 = .ok (.if_icmp .ge 106, 3) := by decide +kernel
theorem dX11_hoursOf_20 : decode cX11_hoursOf 20 = .ok (.bipush 6, 2) := by decide +kernel
theorem dX11_hoursOf_22 : decode cX11_hoursOf 22 = .ok (.iload_n 1, 1) := by decide +kernel
theorem dX11_hoursOf_23 : decode cX11_hoursOf 23 = .ok (.imul, 1) := by decide +kernel
theorem dX11_hoursOf_24 : decode cX11_hoursOf 24 = .ok (.iload 7, 2) := by decide +kernel
theorem dX11_hoursOf_26 : decode cX11_hoursOf 26 = .ok (.iadd, 1) := by decide +kernel
theorem dX11_hoursOf_27 : decode cX11_hoursOf 27 = .ok (.istore 8, 2) := by decide +kernel
theorem dX11_hoursOf_29 : decode cX11_hoursOf 29 = .ok (.iload 6, 2) := by decide +kernel
theorem dX11_hoursOf_31 : decode cX11_hoursOf 31 = .ok (.aload_n 0, 1) := by decide +kernel
theorem dX11_hoursOf_32 : decode cX11_hoursOf 32 = .ok (.getfield 37, 3) := by decide +kernel
theorem dX11_hoursOf_35 : decode cX11_hoursOf 35 = .ok (.iconst 4, 1) := by decide +kernel
theorem dX11_hoursOf_36 : decode cX11_hoursOf 36 = .ok (.iload 8, 2) := by decide +kernel
theorem dX11_hoursOf_38 : decode cX11_hoursOf 38 = .ok (.imul, 1) := by decide +kernel
theorem dX11_hoursOf_39 : decode cX11_hoursOf 39 = .ok (.iaload, 1) := by decide +kernel
theorem dX11_hoursOf_40 : decode cX11_hoursOf 40 = .ok (.iadd, 1) := by decide +kernel
theorem dX11_hoursOf_41 : decode cX11_hoursOf 41 = .ok (.istore 9, 2) := by decide +kernel
theorem dX11_hoursOf_43 : decode cX11_hoursOf 43 = .ok (.iload 9, 2) := by decide +kernel
theorem dX11_hoursOf_45 : decode cX11_hoursOf 45 = .ok (.iload_n 3, 1) := by decide +kernel
theorem dX11_hoursOf_46 : decode cX11_hoursOf 46 = .ok (.iload 6, 2) := by decide +kernel
theorem dX11_hoursOf_48 : decode cX11_hoursOf 48 = .ok (.if_icmp .le 7, 3) := by decide +kernel
theorem dX11_hoursOf_51 : decode cX11_hoursOf 51 = .ok (.iload_n 3, 1) := by decide +kernel
theorem dX11_hoursOf_52 : decode cX11_hoursOf 52 = .ok (.goto 5, 3) := by decide +kernel
theorem dX11_hoursOf_55 : decode cX11_hoursOf 55 = .ok (.iload 6, 2) := by decide +kernel
theorem dX11_hoursOf_57 : decode cX11_hoursOf 57 = .ok (.isub, 1) := by decide +kernel
theorem dX11_hoursOf_58 : decode cX11_hoursOf 58 = .ok (.istore 10, 2) := by decide +kernel
theorem dX11_hoursOf_60 : decode cX11_hoursOf 60 = .ok (.iload 10, 2) := by decide +kernel
theorem dX11_hoursOf_62 : decode cX11_hoursOf 62 = .ok (.ifCond .le 16, 3) := by decide +kernel
theorem dX11_hoursOf_65 : decode cX11_hoursOf 65 = .ok (.iload 10, 2) := by decide +kernel
theorem dX11_hoursOf_67 : decode cX11_hoursOf 67 = .ok (.aload_n 0, 1) := by decide +kernel
theorem dX11_hoursOf_68 : decode cX11_hoursOf 68 = .ok (.iload 8, 2) := by decide +kernel
theorem dX11_hoursOf_70 : decode cX11_hoursOf 70 = .ok (.iload_n 2, 1) := by decide +kernel
theorem dX11_hoursOf_71 : decode cX11_hoursOf 71 = .ok (.invokevirtual 241, 3) := by decide +kernel
theorem dX11_hoursOf_74 : decode cX11_hoursOf 74 = .ok (.imul, 1) := by decide +kernel
theorem dX11_hoursOf_75 : decode cX11_hoursOf 75 = .ok (.goto 4, 3) := by decide +kernel
theorem dX11_hoursOf_78 : decode cX11_hoursOf 78 = .ok (.iconst 0, 1) := by decide +kernel
theorem dX11_hoursOf_79 : decode cX11_hoursOf 79 = .ok (.istore 11, 2) := by decide +kernel
theorem dX11_hoursOf_81 : decode cX11_hoursOf 81 = .ok (.iload 5, 2) := by decide +kernel
theorem dX11_hoursOf_83 : decode cX11_hoursOf 83 = .ok (.iload 4, 2) := by decide +kernel
theorem dX11_hoursOf_85 : decode cX11_hoursOf 85 = .ok (.ifCond .ne 8, 3) := by decide +kernel
theorem dX11_hoursOf_88 : decode cX11_hoursOf 88 = .ok (.iload 11, 2) := by decide +kernel
theorem dX11_hoursOf_90 : decode cX11_hoursOf 90 = .ok (.goto 20, 3) := by decide +kernel
theorem dX11_hoursOf_93 : decode cX11_hoursOf 93 = .ok (.iload 11, 2) := by decide +kernel
theorem dX11_hoursOf_95 : decode cX11_hoursOf 95 = .ok (.aload_n 0, 1) := by decide +kernel
theorem dX11_hoursOf_96 : decode cX11_hoursOf 96 = .ok (.getfield 37, 3) := by decide +kernel
theorem dX11_hoursOf_99 : decode cX11_hoursOf 99 = .ok (.iconst 4, 1) := by decide +kernel
theorem dX11_hoursOf_100 : decode cX11_hoursOf 100 = .ok (.iload 8, 2) := by decide +kernel
theorem dX11_hoursOf_102 : decode cX11_hoursOf 102 = .ok (.imul, 1) := by decide +kernel
theorem dX11_hoursOf_103 : decode cX11_hoursOf 103 = .ok (.iconst 3, 1) := by decide +kernel
theorem dX11_hoursOf_104 : decode cX11_hoursOf 104 = .ok (.iadd, 1) := by decide +kernel
theorem dX11_hoursOf_105 : decode cX11_hoursOf 105 = .ok (.iaload, 1) := by decide +kernel
theorem dX11_hoursOf_106 : decode cX11_hoursOf 106 = .ok (.imul, 1) := by decide +kernel
theorem dX11_hoursOf_107 : decode cX11_hoursOf 107 = .ok (.bipush 100, 2) := by decide +kernel
theorem dX11_hoursOf_109 : decode cX11_hoursOf 109 = .ok (.idiv, 1) := by decide +kernel
theorem dX11_hoursOf_110 : decode cX11_hoursOf 110 = .ok (.iadd, 1) := by decide +kernel
theorem dX11_hoursOf_111 : decode cX11_hoursOf 111 = .ok (.istore 5, 2) := by decide +kernel
theorem dX11_hoursOf_113 : decode cX11_hoursOf 113 = .ok (.iload 9, 2) := by decide +kernel
theorem dX11_hoursOf_115 : decode cX11_hoursOf 115 = .ok (.istore 6, 2) := by decide +kernel
theorem dX11_hoursOf_117 : decode cX11_hoursOf 117 = .ok (.iinc 7 1, 3) := by decide +kernel
theorem dX11_hoursOf_120 : decode cX11_hoursOf 120 = .ok (.goto (-111), 3) := by decide +kernel
theorem dX11_hoursOf_123 : decode cX11_hoursOf 123 = .ok (.iload 5, 2) := by decide +kernel
theorem dX11_hoursOf_125 : decode cX11_hoursOf 125 = .ok (.ireturn, 1) := by decide +kernel
theorem dX11_plain_0 : decode cX11_plain 0 = .ok (.iload_n 0, 1) := by decide +kernel
theorem dX11_plain_1 : decode cX11_plain 1 = .ok (.ifCond .ge 8, 3) := by decide +kernel
theorem dX11_plain_4 : decode cX11_plain 4 = .ok (.iload_n 0, 1) := by decide +kernel
theorem dX11_plain_5 : decode cX11_plain 5 = .ok (.ineg, 1) := by decide +kernel
theorem dX11_plain_6 : decode cX11_plain 6 = .ok (.goto 4, 3) := by decide +kernel
theorem dX11_plain_9 : decode cX11_plain 9 = .ok (.iload_n 0, 1) := by decide +kernel
theorem dX11_plain_10 : decode cX11_plain 10 = .ok (.ireturn, 1) := by decide +kernel
theorem dX11_isSo_0 : decode cX11_isSo 0 = .ok (.iconst 0, 1) := by decide +kernel
theorem dX11_isSo_1 : decode cX11_isSo 1 = .ok (.istore 4, 2) := by decide +kernel
theorem dX11_isSo_3 : decode cX11_isSo 3 = .ok (.iload 4, 2) := by decide +kernel
theorem dX11_isSo_5 : decode cX11_isSo 5 = .ok (.aload_n 0, 1) := by decide +kernel
theorem dX11_isSo_6 : decode cX11_isSo 6 = .ok (.getfield 283, 3) := by decide +kernel
theorem dX11_isSo_9 : decode cX11_isSo 9 = .ok (.if_icmp .ge 64, 3) := by decide +kernel
theorem dX11_isSo_12 : decode cX11_isSo 12 = .ok (.iconst 0, 1) := by decide +kernel
theorem dX11_isSo_13 : decode cX11_isSo 13 = .ok (.istore 5, 2) := by decide +kernel
theorem dX11_isSo_15 : decode cX11_isSo 15 = .ok (.iload 5, 2) := by decide +kernel
theorem dX11_isSo_17 : decode cX11_isSo 17 = .ok (.iconst 3, 1) := by decide +kernel
theorem dX11_isSo_18 : decode cX11_isSo 18 = .ok (.if_icmp .ge 49, 3) := by decide +kernel
theorem dX11_isSo_21 : decode cX11_isSo 21 = .ok (.aload_n 0, 1) := by decide +kernel
theorem dX11_isSo_22 : decode cX11_isSo 22 = .ok (.iload_n 1, 1) := by decide +kernel
theorem dX11_isSo_23 : decode cX11_isSo 23 = .ok (.aload_n 2, 1) := by decide +kernel
theorem dX11_isSo_24 : decode cX11_isSo 24 = .ok (.iload_n 3, 1) := by decide +kernel
theorem dX11_isSo_25 : decode cX11_isSo 25 = .ok (.iload 4, 2) := by decide +kernel
theorem dX11_isSo_27 : decode cX11_isSo 27 = .ok (.iadd, 1) := by decide +kernel
theorem dX11_isSo_28 : decode cX11_isSo 28 = .ok (.iaload, 1) := by decide +kernel
theorem dX11_isSo_29 : decode cX11_isSo 29 = .ok (.iload 5, 2) := by decide +kernel
theorem dX11_isSo_31 : decode cX11_isSo 31 = .ok (.invokevirtual 257, 3) := by decide +kernel
theorem dX11_isSo_34 : decode cX11_isSo 34 = .ok (.aload_n 0, 1) := by decide +kernel
theorem dX11_isSo_35 : decode cX11_isSo 35 = .ok (.getfield 68, 3) := by decide +kernel
theorem dX11_isSo_38 : decode cX11_isSo 38 = .ok (.iconst 3, 1) := by decide +kernel
theorem dX11_isSo_39 : decode cX11_isSo 39 = .ok (.iload 4, 2) := by decide +kernel
theorem dX11_isSo_41 : decode cX11_isSo 41 = .ok (.imul, 1) := by decide +kernel
theorem dX11_isSo_42 : decode cX11_isSo 42 = .ok (.iload 5, 2) := by decide +kernel
theorem dX11_isSo_44 : decode cX11_isSo 44 = .ok (.iadd, 1) := by decide +kernel
theorem dX11_isSo_45 : decode cX11_isSo 45 = .ok (.iaload, 1) := by decide +kernel
theorem dX11_isSo_46 : decode cX11_isSo 46 = .ok (.isub, 1) := by decide +kernel
theorem dX11_isSo_47 : decode cX11_isSo 47 = .ok (.invokestatic 290, 3) := by decide +kernel
theorem dX11_isSo_50 : decode cX11_isSo 50 = .ok (.aload_n 0, 1) := by decide +kernel
theorem dX11_isSo_51 : decode cX11_isSo 51 = .ok (.getfield 17, 3) := by decide +kernel
theorem dX11_isSo_54 : decode cX11_isSo 54 = .ok (.iconst 2, 1) := by decide +kernel
theorem dX11_isSo_55 : decode cX11_isSo 55 = .ok (.iaload, 1) := by decide +kernel
theorem dX11_isSo_56 : decode cX11_isSo 56 = .ok (.if_icmp .le 5, 3) := by decide +kernel
theorem dX11_isSo_59 : decode cX11_isSo 59 = .ok (.iconst 0, 1) := by decide +kernel
theorem dX11_isSo_60 : decode cX11_isSo 60 = .ok (.ireturn, 1) := by decide +kernel
theorem dX11_isSo_61 : decode cX11_isSo 61 = .ok (.iinc 5 1, 3) := by decide +kernel
theorem dX11_isSo_64 : decode cX11_isSo 64 = .ok (.goto (-49), 3) := by decide +kernel
theorem dX11_isSo_67 : decode cX11_isSo 67 = .ok (.iinc 4 1, 3) := by decide +kernel
theorem dX11_isSo_70 : decode cX11_isSo 70 = .ok (.goto (-67), 3) := by decide +kernel
theorem dX11_isSo_73 : decode cX11_isSo 73 = .ok (.iconst 1, 1) := by decide +kernel
theorem dX11_isSo_74 : decode cX11_isSo 74 = .ok (.ireturn, 1) := by decide +kernel
theorem dX11_yearAt_0 : decode cX11_yearAt 0 = .ok (.iload_n 1, 1) := by decide +kernel
theorem dX11_yearAt_1 : decode cX11_yearAt 1 = .ok (.ifCond .ne 7, 3) := by decide +kernel
theorem dX11_yearAt_4 : decode cX11_yearAt 4 = .ok (.iconst 0, 1) := by decide +kernel
theorem dX11_yearAt_5 : decode cX11_yearAt 5 = .ok (.goto 14, 3) := by decide +kernel
theorem dX11_yearAt_8 : decode cX11_yearAt 8 = .ok (.aload_n 0, 1) := by decide +kernel
theorem dX11_yearAt_9 : decode cX11_yearAt 9 = .ok (.getfield 17, 3) := by decide +kernel
theorem dX11_yearAt_12 : decode cX11_yearAt 12 = .ok (.bipush 11, 2) := by decide +kernel
theorem dX11_yearAt_14 : decode cX11_yearAt 14 = .ok (.iload_n 1, 1) := by decide +kernel
theorem dX11_yearAt_15 : decode cX11_yearAt 15 = .ok (.iadd, 1) := by decide +kernel
theorem dX11_yearAt_16 : decode cX11_yearAt 16 = .ok (.iconst 1, 1) := by decide +kernel
theorem dX11_yearAt_17 : decode cX11_yearAt 17 = .ok (.isub, 1) := by decide +kernel
theorem dX11_yearAt_18 : decode cX11_yearAt 18 = .ok (.iaload, 1) := by decide +kernel
theorem dX11_yearAt_19 : decode cX11_yearAt 19 = .ok (.ireturn, 1) := by decide +kernel
theorem dX11_findFits_0 : decode cX11_findFits 0 = .ok (.aload_n 0, 1) := by decide +kernel
theorem dX11_findFits_1 : decode cX11_findFits 1 = .ok (.iload_n 1, 1) := by decide +kernel
theorem dX11_findFits_2 : decode cX11_findFits 2 = .ok (.iload_n 3, 1) := by decide +kernel
theorem dX11_findFits_3 : decode cX11_findFits 3 = .ok (.invokevirtual 293, 3) := by decide +kernel
theorem dX11_findFits_6 : decode cX11_findFits 6 = .ok (.iload_n 1, 1) := by decide +kernel
theorem dX11_findFits_7 : decode cX11_findFits 7 = .ok (.aload_n 0, 1) := by decide +kernel
theorem dX11_findFits_8 : decode cX11_findFits 8 = .ok (.getfield 17, 3) := by decide +kernel
theorem dX11_findFits_11 : decode cX11_findFits 11 = .ok (.iconst 0, 1) := by decide +kernel
theorem dX11_findFits_12 : decode cX11_findFits 12 = .ok (.iaload, 1) := by decide +kernel
theorem dX11_findFits_13 : decode cX11_findFits 13 = .ok (.irem, 1) := by decide +kernel
theorem dX11_findFits_14 : decode cX11_findFits 14 = .ok (.istore 4, 2) := by decide +kernel
theorem dX11_findFits_16 : decode cX11_findFits 16 = .ok (.iconst 0, 1) := by decide +kernel
theorem dX11_findFits_17 : decode cX11_findFits 17 = .ok (.istore 5, 2) := by decide +kernel
theorem dX11_findFits_19 : decode cX11_findFits 19 = .ok (.iload 5, 2) := by decide +kernel
theorem dX11_findFits_21 : decode cX11_findFits 21 = .ok (.aload_n 0, 1) := by decide +kernel
theorem dX11_findFits_22 : decode cX11_findFits 22 = .ok (.getfield 17, 3) := by decide +kernel
theorem dX11_findFits_25 : decode cX11_findFits 25 = .ok (.bipush 7, 2) := by decide +kernel
theorem dX11_findFits_27 : decode cX11_findFits 27 = .ok (.iaload, 1) := by decide +kernel
theorem dX11_findFits_28 : decode cX11_findFits 28 = .ok (.if_icmp .gt 68, 3) := by decide +kernel
theorem dX11_findFits_31 : decode cX11_findFits 31 = .ok (.iconst 0, 1) := by decide +kernel
theorem dX11_findFits_32 : decode cX11_findFits 32 = .ok (.istore 6, 2) := by decide +kernel
theorem dX11_findFits_34 : decode cX11_findFits 34 = .ok (.iload 6, 2) := by decide +kernel
theorem dX11_findFits_36 : decode cX11_findFits 36 = .ok (.aload_n 0, 1) := by decide +kernel
theorem dX11_findFits_37 : decode cX11_findFits 37 = .ok (.getfield 283, 3) := by decide +kernel
theorem dX11_findFits_40 : decode cX11_findFits 40 = .ok (.if_icmp .ge 50, 3) := by decide +kernel
theorem dX11_findFits_43 : decode cX11_findFits 43 = .ok (.aload_n 0, 1) := by decide +kernel
theorem dX11_findFits_44 : decode cX11_findFits 44 = .ok (.getfield 77, 3) := by decide +kernel
theorem dX11_findFits_47 : decode cX11_findFits 47 = .ok (.bipush 22, 2) := by decide +kernel
theorem dX11_findFits_49 : decode cX11_findFits 49 = .ok (.iload 5, 2) := by decide +kernel
theorem dX11_findFits_51 : decode cX11_findFits 51 = .ok (.imul, 1) := by decide +kernel
theorem dX11_findFits_52 : decode cX11_findFits 52 = .ok (.iload 6, 2) := by decide +kernel
theorem dX11_findFits_54 : decode cX11_findFits 54 = .ok (.iadd, 1) := by decide +kernel
theorem dX11_findFits_55 : decode cX11_findFits 55 = .ok (.aload_n 0, 1) := by decide +kernel
theorem dX11_findFits_56 : decode cX11_findFits 56 = .ok (.iload_n 2, 1) := by decide +kernel
theorem dX11_findFits_57 : decode cX11_findFits 57 = .ok (.iload 4, 2) := by decide +kernel
theorem dX11_findFits_59 : decode cX11_findFits 59 = .ok (.aload_n 0, 1) := by decide +kernel
theorem dX11_findFits_60 : decode cX11_findFits 60 = .ok (.iload 5, 2) := by decide +kernel
theorem dX11_findFits_62 : decode cX11_findFits 62 = .ok (.invokevirtual 297, 3) := by decide +kernel
theorem dX11_findFits_65 : decode cX11_findFits 65 = .ok (.aload_n 0, 1) := by decide +kernel
theorem dX11_findFits_66 : decode cX11_findFits 66 = .ok (.getfield 65, 3) := by decide +kernel
theorem dX11_findFits_69 : decode cX11_findFits 69 = .ok (.iload 6, 2) := by decide +kernel
theorem dX11_findFits_71 : decode cX11_findFits 71 = .ok (.iaload, 1) := by decide +kernel
theorem dX11_findFits_72 : decode cX11_findFits 72 = .ok (.invokevirtual 244, 3) := by decide +kernel
theorem dX11_findFits_75 : decode cX11_findFits 75 = .ok (.aload_n 0, 1) := by decide +kernel
theorem dX11_findFits_76 : decode cX11_findFits 76 = .ok (.getfield 62, 3) := by decide +kernel
theorem dX11_findFits_79 : decode cX11_findFits 79 = .ok (.iload 6, 2) := by decide +kernel
theorem dX11_findFits_81 : decode cX11_findFits 81 = .ok (.iaload, 1) := by decide +kernel
theorem dX11_findFits_82 : decode cX11_findFits 82 = .ok (.iadd, 1) := by decide +kernel
theorem dX11_findFits_83 : decode cX11_findFits 83 = .ok (.iastore, 1) := by decide +kernel
theorem dX11_findFits_84 : decode cX11_findFits 84 = .ok (.iinc 6 1, 3) := by decide +kernel
theorem dX11_findFits_87 : decode cX11_findFits 87 = .ok (.goto (-53), 3) := by decide +kernel
theorem dX11_findFits_90 : decode cX11_findFits 90 = .ok (.iinc 5 1, 3) := by decide +kernel
theorem dX11_findFits_93 : decode cX11_findFits 93 = .ok (.goto (-74), 3) := by decide +kernel
theorem dX11_findFits_96 : decode cX11_findFits 96 = .ok (.aload_n 0, 1) := by decide +kernel
theorem dX11_findFits_97 : decode cX11_findFits 97 = .ok (.iconst 0, 1) := by decide +kernel
theorem dX11_findFits_98 : decode cX11_findFits 98 = .ok (.putfield 300, 3) := by decide +kernel
theorem dX11_findFits_101 : decode cX11_findFits 101 = .ok (.aload_n 0, 1) := by decide +kernel
theorem dX11_findFits_102 : decode cX11_findFits 102 = .ok (.iconst 0, 1) := by decide +kernel
theorem dX11_findFits_103 : decode cX11_findFits 103 = .ok (.putfield 303, 3) := by decide +kernel
theorem dX11_findFits_106 : decode cX11_findFits 106 = .ok (.iconst 0, 1) := by decide +kernel
theorem dX11_findFits_107 : decode cX11_findFits 107 = .ok (.istore 5, 2) := by decide +kernel
theorem dX11_findFits_109 : decode cX11_findFits 109 = .ok (.iload 5, 2) := by decide +kernel
theorem dX11_findFits_111 : decode cX11_findFits 111 = .ok (.aload_n 0, 1) := by decide +kernel
theorem dX11_findFits_112 : decode cX11_findFits 112 = .ok (.getfield 189, 3) := by decide +kernel
theorem dX11_findFits_115 : decode cX11_findFits 115 = .ok (.if_icmp .ge 116, 3) := by decide +kernel
theorem dX11_findFits_118 : decode cX11_findFits 118 = .ok (.aload_n 0, 1) := by decide +kernel
theorem dX11_findFits_119 : decode cX11_findFits 119 = .ok (.getfield 300, 3) := by decide +kernel
theorem dX11_findFits_122 : decode cX11_findFits 122 = .ok (.istore 6, 2) := by decide +kernel
theorem dX11_findFits_124 : decode cX11_findFits 124 = .ok (.iconst 0, 1) := by decide +kernel
theorem dX11_findFits_125 : decode cX11_findFits 125 = .ok (.istore 7, 2) := by decide +kernel
theorem dX11_findFits_127 : decode cX11_findFits 127 = .ok (.iload 7, 2) := by decide +kernel
theorem dX11_findFits_129 : decode cX11_findFits 129 = .ok (.aload_n 0, 1) := by decide +kernel
theorem dX11_findFits_130 : decode cX11_findFits 130 = .ok (.getfield 17, 3) := by decide +kernel
theorem dX11_findFits_133 : decode cX11_findFits 133 = .ok (.bipush 7, 2) := by decide +kernel
theorem dX11_findFits_135 : decode cX11_findFits 135 = .ok (.iaload, 1) := by decide +kernel
theorem dX11_findFits_136 : decode cX11_findFits 136 = .ok (.if_icmp .gt 66, 3) := by decide +kernel
theorem dX11_findFits_139 : decode cX11_findFits 139 = .ok (.aload_n 0, 1) := by decide +kernel
theorem dX11_findFits_140 : decode cX11_findFits 140 = .ok (.iload 5, 2) := by decide +kernel
theorem dX11_findFits_142 : decode cX11_findFits 142 = .ok (.aload_n 0, 1) := by decide +kernel
theorem dX11_findFits_143 : decode cX11_findFits 143 = .ok (.getfield 77, 3) := by decide +kernel
theorem dX11_findFits_146 : decode cX11_findFits 146 = .ok (.bipush 22, 2) := by decide +kernel
theorem dX11_findFits_148 : decode cX11_findFits 148 = .ok (.iload 7, 2) := by decide +kernel
theorem dX11_findFits_150 : decode cX11_findFits 150 = .ok (.imul, 1) := by decide +kernel
theorem dX11_findFits_151 : decode cX11_findFits 151 = .ok (.invokevirtual 306, 3) := by decide +kernel
theorem dX11_findFits_154 : decode cX11_findFits 154 = .ok (.ifCond .ne 6, 3) := by decide +kernel
theorem dX11_findFits_157 : decode cX11_findFits 157 = .ok (.goto 39, 3) := by decide +kernel
theorem dX11_findFits_160 : decode cX11_findFits 160 = .ok (.aload_n 0, 1) := by decide +kernel
theorem dX11_findFits_161 : decode cX11_findFits 161 = .ok (.getfield 71, 3) := by decide +kernel
theorem dX11_findFits_164 : decode cX11_findFits 164 = .ok (.aload_n 0, 1) := by decide +kernel
theorem dX11_findFits_165 : decode cX11_findFits 165 = .ok (.getfield 300, 3) := by decide +kernel
theorem dX11_findFits_168 : decode cX11_findFits 168 = .ok (.iload 5, 2) := by decide +kernel
theorem dX11_findFits_170 : decode cX11_findFits 170 = .ok (.iastore, 1) := by decide +kernel
theorem dX11_findFits_171 : decode cX11_findFits 171 = .ok (.aload_n 0, 1) := by decide +kernel
theorem dX11_findFits_172 : decode cX11_findFits 172 = .ok (.getfield 74, 3) := by decide +kernel
theorem dX11_findFits_175 : decode cX11_findFits 175 = .ok (.aload_n 0, 1) := by decide +kernel
theorem dX11_findFits_176 : decode cX11_findFits 176 = .ok (.getfield 300, 3) := by decide +kernel
theorem dX11_findFits_179 : decode cX11_findFits 179 = .ok (.aload_n 0, 1) := by decide +kernel
theorem dX11_findFits_180 : decode cX11_findFits 180 = .ok (.iload 7, 2) := by decide +kernel
theorem dX11_findFits_182 : decode cX11_findFits 182 = .ok (.invokevirtual 297, 3) := by decide +kernel
theorem dX11_findFits_185 : decode cX11_findFits 185 = .ok (.iastore, 1) := by decide +kernel
theorem dX11_findFits_186 : decode cX11_findFits 186 = .ok (.aload_n 0, 1) := by decide +kernel
theorem dX11_findFits_187 : decode cX11_findFits 187 = .ok (.dup, 1) := by decide +kernel
theorem dX11_findFits_188 : decode cX11_findFits 188 = .ok (.getfield 300, 3) := by decide +kernel
theorem dX11_findFits_191 : decode cX11_findFits 191 = .ok (.iconst 1, 1) := by decide +kernel
theorem dX11_findFits_192 : decode cX11_findFits 192 = .ok (.iadd, 1) := by decide +kernel
theorem dX11_findFits_193 : decode cX11_findFits 193 = .ok (.putfield 300, 3) := by decide +kernel
theorem dX11_findFits_196 : decode cX11_findFits 196 = .ok (.iinc 7 1, 3) := by decide +kernel
theorem dX11_findFits_199 : decode cX11_findFits 199 = .ok (.goto (-72), 3) := by decide +kernel
theorem dX11_findFits_202 : decode cX11_findFits 202 = .ok (.aload_n 0, 1) := by decide +kernel
theorem dX11_findFits_203 : decode cX11_findFits 203 = .ok (.dup, 1) := by decide +kernel
theorem dX11_findFits_204 : decode cX11_findFits 204 = .ok (.getfield 303, 3) := by decide +kernel
theorem dX11_findFits_207 : decode cX11_findFits 207 = .ok (.aload_n 0, 1) := by decide +kernel
theorem dX11_findFits_208 : decode cX11_findFits 208 = .ok (.getfield 300, 3) := by decide +kernel
theorem dX11_findFits_211 : decode cX11_findFits 211 = .ok (.iload 6, 2) := by decide +kernel
theorem dX11_findFits_213 : decode cX11_findFits 213 = .ok (.if_icmp .le 7, 3) := by decide +kernel
theorem dX11_findFits_216 : decode cX11_findFits 216 = .ok (.iconst 1, 1) := by decide +kernel
theorem dX11_findFits_217 : decode cX11_findFits 217 = .ok (.goto 4, 3) := by decide +kernel
theorem dX11_findFits_220 : decode cX11_findFits 220 = .ok (.iconst 0, 1) := by decide +kernel
theorem dX11_findFits_221 : decode cX11_findFits 221 = .ok (.iadd, 1) := by decide +kernel
theorem dX11_findFits_222 : decode cX11_findFits 222 = .ok (.putfield 303, 3) := by decide +kernel
theorem dX11_findFits_225 : decode cX11_findFits 225 = .ok (.iinc 5 1, 3) := by decide +kernel
theorem dX11_findFits_228 : decode cX11_findFits 228 = .ok (.goto (-119), 3) := by decide +kernel
theorem dX11_findFits_231 : decode cX11_findFits 231 = .ok (.return_, 1) := by decide +kernel
theorem dX11_isBound_0 : decode cX11_isBound 0 = .ok (.iload_n 0, 1) := by decide +kernel
theorem dX11_isBound_1 : decode cX11_isBound 1 = .ok (.iconst 0, 1) := by decide +kernel
theorem dX11_isBound_2 : decode cX11_isBound 2 = .ok (.bipush 99, 2) := by decide +kernel
theorem dX11_isBound_4 : decode cX11_isBound 4 = .ok (.invokestatic 172, 3) := by decide +kernel
theorem dX11_isBound_7 : decode cX11_isBound 7 = .ok (.ireturn, 1) := by decide +kernel
theorem dX11_isStory_0 : decode cX11_isStory 0 = .ok (.iload_n 1, 1) := by decide +kernel
theorem dX11_isStory_1 : decode cX11_isStory 1 = .ok (.iconst 0, 1) := by decide +kernel
theorem dX11_isStory_2 : decode cX11_isStory 2 = .ok (.aload_n 0, 1) := by decide +kernel
theorem dX11_isStory_3 : decode cX11_isStory 3 = .ok (.getfield 17, 3) := by decide +kernel
theorem dX11_isStory_6 : decode cX11_isStory 6 = .ok (.iconst 5, 1) := by decide +kernel
theorem dX11_isStory_7 : decode cX11_isStory 7 = .ok (.iaload, 1) := by decide +kernel
theorem dX11_isStory_8 : decode cX11_isStory 8 = .ok (.iconst 1, 1) := by decide +kernel
theorem dX11_isStory_9 : decode cX11_isStory 9 = .ok (.isub, 1) := by decide +kernel
theorem dX11_isStory_10 : decode cX11_isStory 10 = .ok (.invokestatic 172, 3) := by decide +kernel
theorem dX11_isStory_13 : decode cX11_isStory 13 = .ok (.ireturn, 1) := by decide +kernel
theorem dX11_bear_0 : decode cX11_bear 0 = .ok (.aload_n 0, 1) := by decide +kernel
theorem dX11_bear_1 : decode cX11_bear 1 = .ok (.iload_n 1, 1) := by decide +kernel
theorem dX11_bear_2 : decode cX11_bear 2 = .ok (.invokevirtual 225, 3) := by decide +kernel
theorem dX11_bear_5 : decode cX11_bear 5 = .ok (.ifCond .eq 20, 3) := by decide +kernel
theorem dX11_bear_8 : decode cX11_bear 8 = .ok (.iload_n 2, 1) := by decide +kernel
theorem dX11_bear_9 : decode cX11_bear 9 = .ok (.iconst 1, 1) := by decide +kernel
theorem dX11_bear_10 : decode cX11_bear 10 = .ok (.bipush 99, 2) := by decide +kernel
theorem dX11_bear_12 : decode cX11_bear 12 = .ok (.invokestatic 172, 3) := by decide +kernel
theorem dX11_bear_15 : decode cX11_bear 15 = .ok (.ifCond .eq 10, 3) := by decide +kernel
theorem dX11_bear_18 : decode cX11_bear 18 = .ok (.iload_n 3, 1) := by decide +kernel
theorem dX11_bear_19 : decode cX11_bear 19 = .ok (.invokestatic 320, 3) := by decide +kernel
theorem dX11_bear_22 : decode cX11_bear 22 = .ok (.ifCond .ne 6, 3) := by decide +kernel
theorem dX11_bear_25 : decode cX11_bear 25 = .ok (.bipush (-2), 2) := by decide +kernel
theorem dX11_bear_27 : decode cX11_bear 27 = .ok (.ireturn, 1) := by decide +kernel
theorem dX11_bear_28 : decode cX11_bear 28 = .ok (.sipush 400, 3) := by decide +kernel
theorem dX11_bear_31 : decode cX11_bear 31 = .ok (.istore 4, 2) := by decide +kernel
theorem dX11_bear_33 : decode cX11_bear 33 = .ok (.iconst 0, 1) := by decide +kernel
theorem dX11_bear_34 : decode cX11_bear 34 = .ok (.istore 5, 2) := by decide +kernel
theorem dX11_bear_36 : decode cX11_bear 36 = .ok (.iload 5, 2) := by decide +kernel
theorem dX11_bear_38 : decode cX11_bear 38 = .ok (.aload_n 0, 1) := by decide +kernel
theorem dX11_bear_39 : decode cX11_bear 39 = .ok (.invokevirtual 222, 3) := by decide +kernel
theorem dX11_bear_42 : decode cX11_bear 42 = .ok (.if_icmp .ge 95, 3) := by decide +kernel
theorem dX11_bear_45 : decode cX11_bear 45 = .ok (.aload_n 0, 1) := by decide +kernel
theorem dX11_bear_46 : decode cX11_bear 46 = .ok (.iload 5, 2) := by decide +kernel
theorem dX11_bear_48 : decode cX11_bear 48 = .ok (.iload_n 1, 1) := by decide +kernel
theorem dX11_bear_49 : decode cX11_bear 49 = .ok (.sipush 999, 3) := by decide +kernel
theorem dX11_bear_52 : decode cX11_bear 52 = .ok (.invokevirtual 313, 3) := by decide +kernel
theorem dX11_bear_55 : decode cX11_bear 55 = .ok (.aload_n 0, 1) := by decide +kernel
theorem dX11_bear_56 : decode cX11_bear 56 = .ok (.getfield 300, 3) := by decide +kernel
theorem dX11_bear_59 : decode cX11_bear 59 = .ok (.iconst 1, 1) := by decide +kernel
theorem dX11_bear_60 : decode cX11_bear 60 = .ok (.if_icmp .eq 6, 3) := by decide +kernel
theorem dX11_bear_63 : decode cX11_bear 63 = .ok (.goto 68, 3) := by decide +kernel
theorem dX11_bear_66 : decode cX11_bear 66 = .ok (.aload_n 0, 1) := by decide +kernel
theorem dX11_bear_67 : decode cX11_bear 67 = .ok (.iload_n 1, 1) := by decide +kernel
theorem dX11_bear_68 : decode cX11_bear 68 = .ok (.iload 5, 2) := by decide +kernel
theorem dX11_bear_70 : decode cX11_bear 70 = .ok (.aload_n 0, 1) := by decide +kernel
theorem dX11_bear_71 : decode cX11_bear 71 = .ok (.getfield 17, 3) := by decide +kernel
theorem dX11_bear_74 : decode cX11_bear 74 = .ok (.iconst 0, 1) := by decide +kernel
theorem dX11_bear_75 : decode cX11_bear 75 = .ok (.iaload, 1) := by decide +kernel
theorem dX11_bear_76 : decode cX11_bear 76 = .ok (.irem, 1) := by decide +kernel
theorem dX11_bear_77 : decode cX11_bear 77 = .ok (.aload_n 0, 1) := by decide +kernel
theorem dX11_bear_78 : decode cX11_bear 78 = .ok (.getfield 74, 3) := by decide +kernel
theorem dX11_bear_81 : decode cX11_bear 81 = .ok (.iconst 0, 1) := by decide +kernel
theorem dX11_bear_82 : decode cX11_bear 82 = .ok (.iaload, 1) := by decide +kernel
theorem dX11_bear_83 : decode cX11_bear 83 = .ok (.iconst 0, 1) := by decide +kernel
theorem dX11_bear_84 : decode cX11_bear 84 = .ok (.invokevirtual 244, 3) := by decide +kernel
theorem dX11_bear_87 : decode cX11_bear 87 = .ok (.istore 6, 2) := by decide +kernel
theorem dX11_bear_89 : decode cX11_bear 89 = .ok (.iconst 0, 1) := by decide +kernel
theorem dX11_bear_90 : decode cX11_bear 90 = .ok (.istore 7, 2) := by decide +kernel
theorem dX11_bear_92 : decode cX11_bear 92 = .ok (.iload 7, 2) := by decide +kernel
theorem dX11_bear_94 : decode cX11_bear 94 = .ok (.iload 4, 2) := by decide +kernel
theorem dX11_bear_96 : decode cX11_bear 96 = .ok (.if_icmp .ge 31, 3) := by decide +kernel
theorem dX11_bear_99 : decode cX11_bear 99 = .ok (.aload_n 0, 1) := by decide +kernel
theorem dX11_bear_100 : decode cX11_bear 100 = .ok (.aload_n 0, 1) := by decide +kernel
theorem dX11_bear_101 : decode cX11_bear 101 = .ok (.getfield 71, 3) := by decide +kernel
theorem dX11_bear_104 : decode cX11_bear 104 = .ok (.iconst 0, 1) := by decide +kernel
theorem dX11_bear_105 : decode cX11_bear 105 = .ok (.iaload, 1) := by decide +kernel
theorem dX11_bear_106 : decode cX11_bear 106 = .ok (.iload 6, 2) := by decide +kernel
theorem dX11_bear_108 : decode cX11_bear 108 = .ok (.iload 7, 2) := by decide +kernel
theorem dX11_bear_110 : decode cX11_bear 110 = .ok (.iconst 1, 1) := by decide +kernel
theorem dX11_bear_111 : decode cX11_bear 111 = .ok (.iadd, 1) := by decide +kernel
theorem dX11_bear_112 : decode cX11_bear 112 = .ok (.iload_n 2, 1) := by decide +kernel
theorem dX11_bear_113 : decode cX11_bear 113 = .ok (.imul, 1) := by decide +kernel
theorem dX11_bear_114 : decode cX11_bear 114 = .ok (.iload_n 3, 1) := by decide +kernel
theorem dX11_bear_115 : decode cX11_bear 115 = .ok (.invokevirtual 355, 3) := by decide +kernel
theorem dX11_bear_118 : decode cX11_bear 118 = .ok (.ifCond .eq 9, 3) := by decide +kernel
theorem dX11_bear_121 : decode cX11_bear 121 = .ok (.iinc 7 1, 3) := by decide +kernel
theorem dX11_bear_124 : decode cX11_bear 124 = .ok (.goto (-32), 3) := by decide +kernel
theorem dX11_bear_127 : decode cX11_bear 127 = .ok (.iload 7, 2) := by decide +kernel
theorem dX11_bear_129 : decode cX11_bear 129 = .ok (.istore 4, 2) := by decide +kernel
theorem dX11_bear_131 : decode cX11_bear 131 = .ok (.iinc 5 1, 3) := by decide +kernel
theorem dX11_bear_134 : decode cX11_bear 134 = .ok (.goto (-98), 3) := by decide +kernel
theorem dX11_bear_137 : decode cX11_bear 137 = .ok (.iload 4, 2) := by decide +kernel
theorem dX11_bear_139 : decode cX11_bear 139 = .ok (.ireturn, 1) := by decide +kernel
theorem dX11_begin_0 : decode cX11_begin 0 = .ok (.iconst 0, 1) := by decide +kernel
theorem dX11_begin_1 : decode cX11_begin 1 = .ok (.istore_n 1, 1) := by decide +kernel
theorem dX11_begin_2 : decode cX11_begin 2 = .ok (.iload_n 1, 1) := by decide +kernel
theorem dX11_begin_3 : decode cX11_begin 3 = .ok (.bipush 14, 2) := by decide +kernel
theorem dX11_begin_5 : decode cX11_begin 5 = .ok (.if_icmp .ge 19, 3) := by decide +kernel
theorem dX11_begin_8 : decode cX11_begin 8 = .ok (.aload_n 0, 1) := by decide +kernel
theorem dX11_begin_9 : decode cX11_begin 9 = .ok (.getfield 17, 3) := by decide +kernel
theorem dX11_begin_12 : decode cX11_begin 12 = .ok (.bipush 14, 2) := by decide +kernel
theorem dX11_begin_14 : decode cX11_begin 14 = .ok (.iload_n 1, 1) := by decide +kernel
theorem dX11_begin_15 : decode cX11_begin 15 = .ok (.iadd, 1) := by decide +kernel
theorem dX11_begin_16 : decode cX11_begin 16 = .ok (.iconst 0, 1) := by decide +kernel
theorem dX11_begin_17 : decode cX11_begin 17 = .ok (.iastore, 1) := by decide +kernel
theorem dX11_begin_18 : decode cX11_begin 18 = .ok (.iinc 1 1, 3) := by decide +kernel
theorem dX11_begin_21 : decode cX11_begin 21 = .ok (.goto (-19), 3) := by decide +kernel
theorem dX11_begin_24 : decode cX11_begin 24 = .ok (.aload_n 0, 1) := by decide +kernel
theorem dX11_begin_25 : decode cX11_begin 25 = .ok (.getfield 17, 3) := by decide +kernel
theorem dX11_begin_28 : decode cX11_begin 28 = .ok (.bipush 14, 2) := by decide +kernel
theorem dX11_begin_30 : decode cX11_begin 30 = .ok (.iconst 4, 1) := by decide +kernel
theorem dX11_begin_31 : decode cX11_begin 31 = .ok (.iastore, 1) := by decide +kernel
theorem dX11_begin_32 : decode cX11_begin 32 = .ok (.aload_n 0, 1) := by decide +kernel
theorem dX11_begin_33 : decode cX11_begin 33 = .ok (.getfield 17, 3) := by decide +kernel
theorem dX11_begin_36 : decode cX11_begin 36 = .ok (.bipush 15, 2) := by decide +kernel
theorem dX11_begin_38 : decode cX11_begin 38 = .ok (.iconst 3, 1) := by decide +kernel
theorem dX11_begin_39 : decode cX11_begin 39 = .ok (.iastore, 1) := by decide +kernel
theorem dX11_begin_40 : decode cX11_begin 40 = .ok (.aload_n 0, 1) := by decide +kernel
theorem dX11_begin_41 : decode cX11_begin 41 = .ok (.getfield 17, 3) := by decide +kernel
theorem dX11_begin_44 : decode cX11_begin 44 = .ok (.bipush 17, 2) := by decide +kernel
theorem dX11_begin_46 : decode cX11_begin 46 = .ok (.iconst 2, 1) := by decide +kernel
theorem dX11_begin_47 : decode cX11_begin 47 = .ok (.iastore, 1) := by decide +kernel
theorem dX11_begin_48 : decode cX11_begin 48 = .ok (.iconst 0, 1) := by decide +kernel
theorem dX11_begin_49 : decode cX11_begin 49 = .ok (.istore_n 1, 1) := by decide +kernel
theorem dX11_begin_50 : decode cX11_begin 50 = .ok (.iload_n 1, 1) := by decide +kernel
theorem dX11_begin_51 : decode cX11_begin 51 = .ok (.iconst 3, 1) := by decide +kernel
theorem dX11_begin_52 : decode cX11_begin 52 = .ok (.if_icmp .ge 20, 3) := by decide +kernel
theorem dX11_begin_55 : decode cX11_begin 55 = .ok (.aload_n 0, 1) := by decide +kernel
theorem dX11_begin_56 : decode cX11_begin 56 = .ok (.getfield 17, 3) := by decide +kernel
theorem dX11_begin_59 : decode cX11_begin 59 = .ok (.bipush 22, 2) := by decide +kernel
theorem dX11_begin_61 : decode cX11_begin 61 = .ok (.iload_n 1, 1) := by decide +kernel
theorem dX11_begin_62 : decode cX11_begin 62 = .ok (.iadd, 1) := by decide +kernel
theorem dX11_begin_63 : decode cX11_begin 63 = .ok (.bipush 100, 2) := by decide +kernel
theorem dX11_begin_65 : decode cX11_begin 65 = .ok (.iastore, 1) := by decide +kernel
theorem dX11_begin_66 : decode cX11_begin 66 = .ok (.iinc 1 1, 3) := by decide +kernel
theorem dX11_begin_69 : decode cX11_begin 69 = .ok (.goto (-19), 3) := by decide +kernel
theorem dX11_begin_72 : decode cX11_begin 72 = .ok (.aload_n 0, 1) := by decide +kernel
theorem dX11_begin_73 : decode cX11_begin 73 = .ok (.iconst 0, 1) := by decide +kernel
theorem dX11_begin_74 : decode cX11_begin 74 = .ok (.putfield 182, 3) := by decide +kernel
theorem dX11_begin_77 : decode cX11_begin 77 = .ok (.return_, 1) := by decide +kernel
theorem dX11_isStep_0 : decode cX11_isStep 0 = .ok (.iload_n 0, 1) := by decide +kernel
theorem dX11_isStep_1 : decode cX11_isStep 1 = .ok (.iconst 0, 1) := by decide +kernel
theorem dX11_isStep_2 : decode cX11_isStep 2 = .ok (.sipush 999, 3) := by decide +kernel
theorem dX11_isStep_5 : decode cX11_isStep 5 = .ok (.invokestatic 172, 3) := by decide +kernel
theorem dX11_isStep_8 : decode cX11_isStep 8 = .ok (.ireturn, 1) := by decide +kernel
theorem dX11_isAsked_0 : decode cX11_isAsked 0 = .ok (.aload_n 0, 1) := by decide +kernel
theorem dX11_isAsked_1 : decode cX11_isAsked 1 = .ok (.iload_n 1, 1) := by decide +kernel
theorem dX11_isAsked_2 : decode cX11_isAsked 2 = .ok (.invokevirtual 264, 3) := by decide +kernel
theorem dX11_isAsked_5 : decode cX11_isAsked 5 = .ok (.ifCond .eq 22, 3) := by decide +kernel
theorem dX11_isAsked_8 : decode cX11_isAsked 8 = .ok (.aload_n 0, 1) := by decide +kernel
theorem dX11_isAsked_9 : decode cX11_isAsked 9 = .ok (.iload_n 2, 1) := by decide +kernel
theorem dX11_isAsked_10 : decode cX11_isAsked 10 = .ok (.invokevirtual 225, 3) := by decide +kernel
theorem dX11_isAsked_13 : decode cX11_isAsked 13 = .ok (.ifCond .eq 14, 3) := by decide +kernel
theorem dX11_isAsked_16 : decode cX11_isAsked 16 = .ok (.iload_n 3, 1) := by decide +kernel
theorem dX11_isAsked_17 : decode cX11_isAsked 17 = .ok (.invokestatic 274, 3) := by decide +kernel
theorem dX11_isAsked_20 : decode cX11_isAsked 20 = .ok (.ifCond .eq 7, 3) := by decide +kernel
theorem dX11_isAsked_23 : decode cX11_isAsked 23 = .ok (.iconst 1, 1) := by decide +kernel
theorem dX11_isAsked_24 : decode cX11_isAsked 24 = .ok (.goto 4, 3) := by decide +kernel
theorem dX11_isAsked_27 : decode cX11_isAsked 27 = .ok (.iconst 0, 1) := by decide +kernel
theorem dX11_isAsked_28 : decode cX11_isAsked 28 = .ok (.ireturn, 1) := by decide +kernel
theorem dX11_onlyThread_0 : decode cX11_onlyThread 0 = .ok (.aload_n 0, 1) := by decide +kernel
theorem dX11_onlyThread_1 : decode cX11_onlyThread 1 = .ok (.iload_n 1, 1) := by decide +kernel
theorem dX11_onlyThread_2 : decode cX11_onlyThread 2 = .ok (.iload_n 2, 1) := by decide +kernel
theorem dX11_onlyThread_3 : decode cX11_onlyThread 3 = .ok (.iload_n 3, 1) := by decide +kernel
theorem dX11_onlyThread_4 : decode cX11_onlyThread 4 = .ok (.invokevirtual 313, 3) := by decide +kernel
theorem dX11_onlyThread_7 : decode cX11_onlyThread 7 = .ok (.aload_n 0, 1) := by decide +kernel
theorem dX11_onlyThread_8 : decode cX11_onlyThread 8 = .ok (.getfield 303, 3) := by decide +kernel
theorem dX11_onlyThread_11 : decode cX11_onlyThread 11 = .ok (.iconst 1, 1) := by decide +kernel
theorem dX11_onlyThread_12 : decode cX11_onlyThread 12 = .ok (.if_icmp .ne 12, 3) := by decide +kernel
theorem dX11_onlyThread_15 : decode cX11_onlyThread 15 = .ok (.aload_n 0, 1) := by decide +kernel
theorem dX11_onlyThread_16 : decode cX11_onlyThread 16 = .ok (.getfield 71, 3) := by decide +kernel
theorem dX11_onlyThread_19 : decode cX11_onlyThread 19 = .ok (.iconst 0, 1) := by decide +kernel
theorem dX11_onlyThread_20 : decode cX11_onlyThread 20 = .ok (.iaload, 1) := by decide +kernel
theorem dX11_onlyThread_21 : decode cX11_onlyThread 21 = .ok (.goto 4, 3) := by decide +kernel
theorem dX11_onlyThread_24 : decode cX11_onlyThread 24 = .ok (.iconst (-1), 1) := by decide +kernel
theorem dX11_onlyThread_25 : decode cX11_onlyThread 25 = .ok (.ireturn, 1) := by decide +kernel
theorem dX11_beside_0 : decode cX11_beside 0 = .ok (.aload_n 0, 1) := by decide +kernel
theorem dX11_beside_1 : decode cX11_beside 1 = .ok (.iload_n 1, 1) := by decide +kernel
theorem dX11_beside_2 : decode cX11_beside 2 = .ok (.iload_n 2, 1) := by decide +kernel
theorem dX11_beside_3 : decode cX11_beside 3 = .ok (.iload_n 3, 1) := by decide +kernel
theorem dX11_beside_4 : decode cX11_beside 4 = .ok (.invokevirtual 310, 3) := by decide +kernel
theorem dX11_beside_7 : decode cX11_beside 7 = .ok (.ifCond .eq 13, 3) := by decide +kernel
theorem dX11_beside_10 : decode cX11_beside 10 = .ok (.iload 4, 2) := by decide +kernel
theorem dX11_beside_12 : decode cX11_beside 12 = .ok (.iconst 0, 1) := by decide +kernel
theorem dX11_beside_13 : decode cX11_beside 13 = .ok (.iconst 2, 1) := by decide +kernel
theorem dX11_beside_14 : decode cX11_beside 14 = .ok (.invokestatic 172, 3) := by decide +kernel
theorem dX11_beside_17 : decode cX11_beside 17 = .ok (.ifCond .ne 6, 3) := by decide +kernel
theorem dX11_beside_20 : decode cX11_beside 20 = .ok (.bipush (-2), 2) := by decide +kernel
theorem dX11_beside_22 : decode cX11_beside 22 = .ok (.ireturn, 1) := by decide +kernel
theorem dX11_beside_23 : decode cX11_beside 23 = .ok (.aload_n 0, 1) := by decide +kernel
theorem dX11_beside_24 : decode cX11_beside 24 = .ok (.getfield 17, 3) := by decide +kernel
theorem dX11_beside_27 : decode cX11_beside 27 = .ok (.iconst 0, 1) := by decide +kernel
theorem dX11_beside_28 : decode cX11_beside 28 = .ok (.iaload, 1) := by decide +kernel
theorem dX11_beside_29 : decode cX11_beside 29 = .ok (.istore 5, 2) := by decide +kernel
theorem dX11_beside_31 : decode cX11_beside 31 = .ok (.iconst 0, 1) := by decide +kernel
theorem dX11_beside_32 : decode cX11_beside 32 = .ok (.istore 6, 2) := by decide +kernel
theorem dX11_beside_34 : decode cX11_beside 34 = .ok (.iload_n 1, 1) := by decide +kernel
theorem dX11_beside_35 : decode cX11_beside 35 = .ok (.iload 5, 2) := by decide +kernel
theorem dX11_beside_37 : decode cX11_beside 37 = .ok (.idiv, 1) := by decide +kernel
theorem dX11_beside_38 : decode cX11_beside 38 = .ok (.iconst 1, 1) := by decide +kernel
theorem dX11_beside_39 : decode cX11_beside 39 = .ok (.isub, 1) := by decide +kernel
theorem dX11_beside_40 : decode cX11_beside 40 = .ok (.istore 7, 2) := by decide +kernel
theorem dX11_beside_42 : decode cX11_beside 42 = .ok (.iload 7, 2) := by decide +kernel
theorem dX11_beside_44 : decode cX11_beside 44 = .ok (.iload_n 1, 1) := by decide +kernel
theorem dX11_beside_45 : decode cX11_beside 45 = .ok (.iload 5, 2) := by decide +kernel
theorem dX11_beside_47 : decode cX11_beside 47 = .ok (.idiv, 1) := by decide +kernel
theorem dX11_beside_48 : decode cX11_beside 48 = .ok (.iconst 1, 1) := by decide +kernel
theorem dX11_beside_49 : decode cX11_beside 49 = .ok (.iadd, 1) := by decide +kernel
theorem dX11_beside_50 : decode cX11_beside 50 = .ok (.if_icmp .gt 101, 3) := by decide +kernel
theorem dX11_beside_53 : decode cX11_beside 53 = .ok (.iload_n 1, 1) := by decide +kernel
theorem dX11_beside_54 : decode cX11_beside 54 = .ok (.iload 5, 2) := by decide +kernel
theorem dX11_beside_56 : decode cX11_beside 56 = .ok (.irem, 1) := by decide +kernel
theorem dX11_beside_57 : decode cX11_beside 57 = .ok (.iconst 1, 1) := by decide +kernel
theorem dX11_beside_58 : decode cX11_beside 58 = .ok (.isub, 1) := by decide +kernel
theorem dX11_beside_59 : decode cX11_beside 59 = .ok (.istore 8, 2) := by decide +kernel
theorem dX11_beside_61 : decode cX11_beside 61 = .ok (.iload 8, 2) := by decide +kernel
theorem dX11_beside_63 : decode cX11_beside 63 = .ok (.iload_n 1, 1) := by decide +kernel
theorem dX11_beside_64 : decode cX11_beside 64 = .ok (.iload 5, 2) := by decide +kernel
theorem dX11_beside_66 : decode cX11_beside 66 = .ok (.irem, 1) := by decide +kernel
theorem dX11_beside_67 : decode cX11_beside 67 = .ok (.iconst 1, 1) := by decide +kernel
theorem dX11_beside_68 : decode cX11_beside 68 = .ok (.iadd, 1) := by decide +kernel
theorem dX11_beside_69 : decode cX11_beside 69 = .ok (.if_icmp .gt 76, 3) := by decide +kernel
theorem dX11_beside_72 : decode cX11_beside 72 = .ok (.iload 5, 2) := by decide +kernel
theorem dX11_beside_74 : decode cX11_beside 74 = .ok (.iload 7, 2) := by decide +kernel
theorem dX11_beside_76 : decode cX11_beside 76 = .ok (.imul, 1) := by decide +kernel
theorem dX11_beside_77 : decode cX11_beside 77 = .ok (.iload 8, 2) := by decide +kernel
theorem dX11_beside_79 : decode cX11_beside 79 = .ok (.iadd, 1) := by decide +kernel
theorem dX11_beside_80 : decode cX11_beside 80 = .ok (.istore 9, 2) := by decide +kernel
theorem dX11_beside_82 : decode cX11_beside 82 = .ok (.iload 7, 2) := by decide +kernel
theorem dX11_beside_84 : decode cX11_beside 84 = .ok (.iconst 0, 1) := by decide +kernel
theorem dX11_beside_85 : decode cX11_beside 85 = .ok (.aload_n 0, 1) := by decide +kernel
theorem dX11_beside_86 : decode cX11_beside 86 = .ok (.getfield 17, 3) := by decide +kernel
theorem dX11_beside_89 : decode cX11_beside 89 = .ok (.iconst 1, 1) := by decide +kernel
theorem dX11_beside_90 : decode cX11_beside 90 = .ok (.iaload, 1) := by decide +kernel
theorem dX11_beside_91 : decode cX11_beside 91 = .ok (.iconst 1, 1) := by decide +kernel
theorem dX11_beside_92 : decode cX11_beside 92 = .ok (.isub, 1) := by decide +kernel
theorem dX11_beside_93 : decode cX11_beside 93 = .ok (.invokestatic 172, 3) := by decide +kernel
theorem dX11_beside_96 : decode cX11_beside 96 = .ok (.ifCond .eq 43, 3) := by decide +kernel
theorem dX11_beside_99 : decode cX11_beside 99 = .ok (.iload 8, 2) := by decide +kernel
theorem dX11_beside_101 : decode cX11_beside 101 = .ok (.iconst 0, 1) := by decide +kernel
theorem dX11_beside_102 : decode cX11_beside 102 = .ok (.iload 5, 2) := by decide +kernel
theorem dX11_beside_104 : decode cX11_beside 104 = .ok (.iconst 1, 1) := by decide +kernel
theorem dX11_beside_105 : decode cX11_beside 105 = .ok (.isub, 1) := by decide +kernel
theorem dX11_beside_106 : decode cX11_beside 106 = .ok (.invokestatic 172, 3) := by decide +kernel
theorem dX11_beside_109 : decode cX11_beside 109 = .ok (.ifCond .eq 30, 3) := by decide +kernel
theorem dX11_beside_112 : decode cX11_beside 112 = .ok (.iload 9, 2) := by decide +kernel
theorem dX11_beside_114 : decode cX11_beside 114 = .ok (.iload_n 1, 1) := by decide +kernel
theorem dX11_beside_115 : decode cX11_beside 115 = .ok (.if_icmp .ne 6, 3) := by decide +kernel
theorem dX11_beside_118 : decode cX11_beside 118 = .ok (.goto 21, 3) := by decide +kernel
theorem dX11_beside_121 : decode cX11_beside 121 = .ok (.aload_n 0, 1) := by decide +kernel
theorem dX11_beside_122 : decode cX11_beside 122 = .ok (.getfield 95, 3) := by decide +kernel
theorem dX11_beside_125 : decode cX11_beside 125 = .ok (.iload 6, 2) := by decide +kernel
theorem dX11_beside_127 : decode cX11_beside 127 = .ok (.aload_n 0, 1) := by decide +kernel
theorem dX11_beside_128 : decode cX11_beside 128 = .ok (.iload 9, 2) := by decide +kernel
theorem dX11_beside_130 : decode cX11_beside 130 = .ok (.iload_n 2, 1) := by decide +kernel
theorem dX11_beside_131 : decode cX11_beside 131 = .ok (.iload_n 3, 1) := by decide +kernel
theorem dX11_beside_132 : decode cX11_beside 132 = .ok (.invokevirtual 333, 3) := by decide +kernel
theorem dX11_beside_135 : decode cX11_beside 135 = .ok (.iastore, 1) := by decide +kernel
