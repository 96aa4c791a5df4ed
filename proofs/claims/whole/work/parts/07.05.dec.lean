theorem dX11_next_28 : decode cX11_next 28 = .ok (.lstore 6, 2) := by decide +kernel
theorem dX11_next_30 : decode cX11_next 30 = .ok (.iconst 0, 1) := by decide +kernel
theorem dX11_next_31 : decode cX11_next 31 = .ok (.istore 8, 2) := by decide +kernel
theorem dX11_next_33 : decode cX11_next 33 = .ok (.iload 8, 2) := by decide +kernel
theorem dX11_next_35 : decode cX11_next 35 = .ok (.aload_n 0, 1) := by decide +kernel
theorem dX11_next_36 : decode cX11_next 36 = .ok (.invokevirtual 222, 3) := by decide +kernel
theorem dX11_next_39 : decode cX11_next 39 = .ok (.if_icmp .ge 121, 3) := by decide +kernel
theorem dX11_next_42 : decode cX11_next 42 = .ok (.aload_n 0, 1) := by decide +kernel
theorem dX11_next_43 : decode cX11_next 43 = .ok (.iload 8, 2) := by decide +kernel
theorem dX11_next_45 : decode cX11_next 45 = .ok (.iconst 0, 1) := by decide +kernel
theorem dX11_next_46 : decode cX11_next 46 = .ok (.sipush 999, 3) := by decide +kernel
theorem dX11_next_49 : decode cX11_next 49 = .ok (.invokevirtual 277, 3) := by decide +kernel
theorem dX11_next_52 : decode cX11_next 52 = .ok (.istore 9, 2) := by decide +kernel
theorem dX11_next_54 : decode cX11_next 54 = .ok (.iload 9, 2) := by decide +kernel
theorem dX11_next_56 : decode cX11_next 56 = .ok (.ifCond .lt 20, 3) := by decide +kernel
theorem dX11_next_59 : decode cX11_next 59 = .ok (.aload_n 0, 1) := by decide +kernel
theorem dX11_next_60 : decode cX11_next 60 = .ok (.getfield 55, 3) := by decide +kernel
theorem dX11_next_63 : decode cX11_next 63 = .ok (.iload 9, 2) := by decide +kernel
theorem dX11_next_65 : decode cX11_next 65 = .ok (.bipush 6, 2) := by decide +kernel
theorem dX11_next_67 : decode cX11_next 67 = .ok (.iadd, 1) := by decide +kernel
theorem dX11_next_68 : decode cX11_next 68 = .ok (.iaload, 1) := by decide +kernel
theorem dX11_next_69 : decode cX11_next 69 = .ok (.iconst 1, 1) := by decide +kernel
theorem dX11_next_70 : decode cX11_next 70 = .ok (.if_icmp .ne 6, 3) := by decide +kernel
theorem dX11_next_73 : decode cX11_next 73 = .ok (.goto 81, 3) := by decide +kernel
theorem dX11_next_76 : decode cX11_next 76 = .ok (.aload_n 0, 1) := by decide +kernel
theorem dX11_next_77 : decode cX11_next 77 = .ok (.iload 8, 2) := by decide +kernel
theorem dX11_next_79 : decode cX11_next 79 = .ok (.iload_n 1, 1) := by decide +kernel
theorem dX11_next_80 : decode cX11_next 80 = .ok (.sipush 999, 3) := by decide +kernel
theorem dX11_next_83 : decode cX11_next 83 = .ok (.invokevirtual 313, 3) := by decide +kernel
theorem dX11_next_86 : decode cX11_next 86 = .ok (.aload_n 0, 1) := by decide +kernel
theorem dX11_next_87 : decode cX11_next 87 = .ok (.getfield 303, 3) := by decide +kernel
theorem dX11_next_90 : decode cX11_next 90 = .ok (.iconst 2, 1) := by decide +kernel
theorem dX11_next_91 : decode cX11_next 91 = .ok (.if_icmp .ge 6, 3) := by decide +kernel
theorem dX11_next_94 : decode cX11_next 94 = .ok (.goto 60, 3) := by decide +kernel
theorem dX11_next_97 : decode cX11_next 97 = .ok (.aload_n 0, 1) := by decide +kernel
theorem dX11_next_98 : decode cX11_next 98 = .ok (.iload_n 1, 1) := by decide +kernel
theorem dX11_next_99 : decode cX11_next 99 = .ok (.iload 8, 2) := by decide +kernel
theorem dX11_next_101 : decode cX11_next 101 = .ok (.aload_n 0, 1) := by decide +kernel
theorem dX11_next_102 : decode cX11_next 102 = .ok (.getfield 17, 3) := by decide +kernel
theorem dX11_next_105 : decode cX11_next 105 = .ok (.iconst 0, 1) := by decide +kernel
theorem dX11_next_106 : decode cX11_next 106 = .ok (.iaload, 1) := by decide +kernel
theorem dX11_next_107 : decode cX11_next 107 = .ok (.irem, 1) := by decide +kernel
theorem dX11_next_108 : decode cX11_next 108 = .ok (.iload_n 2, 1) := by decide +kernel
theorem dX11_next_109 : decode cX11_next 109 = .ok (.invokevirtual 336, 3) := by decide +kernel
theorem dX11_next_112 : decode cX11_next 112 = .ok (.i2l, 1) := by decide +kernel
theorem dX11_next_113 : decode cX11_next 113 = .ok (.lstore 10, 2) := by decide +kernel
theorem dX11_next_115 : decode cX11_next 115 = .ok (.iload_n 3, 1) := by decide +kernel
theorem dX11_next_116 : decode cX11_next 116 = .ok (.iconst (-1), 1) := by decide +kernel
theorem dX11_next_117 : decode cX11_next 117 = .ok (.if_icmp .eq 23, 3) := by decide +kernel
theorem dX11_next_120 : decode cX11_next 120 = .ok (.lload 10, 2) := by decide +kernel
theorem dX11_next_122 : decode cX11_next 122 = .ok (.lload 6, 2) := by decide +kernel
theorem dX11_next_124 : decode cX11_next 124 = .ok (.lmul, 1) := by decide +kernel
theorem dX11_next_125 : decode cX11_next 125 = .ok (.lload 4, 2) := by decide +kernel
theorem dX11_next_127 : decode cX11_next 127 = .ok (.aload_n 0, 1) := by decide +kernel
theorem dX11_next_128 : decode cX11_next 128 = .ok (.getfield 300, 3) := by decide +kernel
theorem dX11_next_131 : decode cX11_next 131 = .ok (.i2l, 1) := by decide +kernel
theorem dX11_next_132 : decode cX11_next 132 = .ok (.lmul, 1) := by decide +kernel
theorem dX11_next_133 : decode cX11_next 133 = .ok (.lcmp, 1) := by decide +kernel
theorem dX11_next_134 : decode cX11_next 134 = .ok (.ifCond .lt 6, 3) := by decide +kernel
theorem dX11_next_137 : decode cX11_next 137 = .ok (.goto 17, 3) := by decide +kernel
theorem dX11_next_140 : decode cX11_next 140 = .ok (.iload 8, 2) := by decide +kernel
theorem dX11_next_142 : decode cX11_next 142 = .ok (.istore_n 3, 1) := by decide +kernel
theorem dX11_next_143 : decode cX11_next 143 = .ok (.lload 10, 2) := by decide +kernel
theorem dX11_next_145 : decode cX11_next 145 = .ok (.lstore 4, 2) := by decide +kernel
theorem dX11_next_147 : decode cX11_next 147 = .ok (.aload_n 0, 1) := by decide +kernel
theorem dX11_next_148 : decode cX11_next 148 = .ok (.getfield 300, 3) := by decide +kernel
theorem dX11_next_151 : decode cX11_next 151 = .ok (.i2l, 1) := by decide +kernel
theorem dX11_next_152 : decode cX11_next 152 = .ok (.lstore 6, 2) := by decide +kernel
theorem dX11_next_154 : decode cX11_next 154 = .ok (.iinc 8 1, 3) := by decide +kernel
theorem dX11_next_157 : decode cX11_next 157 = .ok (.goto (-124), 3) := by decide +kernel
theorem dX11_next_160 : decode cX11_next 160 = .ok (.iload_n 3, 1) := by decide +kernel
theorem dX11_next_161 : decode cX11_next 161 = .ok (.ireturn, 1) := by decide +kernel
theorem dX11_pair_0 : decode cX11_pair 0 = .ok (.aload_n 0, 1) := by decide +kernel
theorem dX11_pair_1 : decode cX11_pair 1 = .ok (.iload_n 1, 1) := by decide +kernel
theorem dX11_pair_2 : decode cX11_pair 2 = .ok (.iload_n 2, 1) := by decide +kernel
theorem dX11_pair_3 : decode cX11_pair 3 = .ok (.iload_n 3, 1) := by decide +kernel
theorem dX11_pair_4 : decode cX11_pair 4 = .ok (.invokevirtual 310, 3) := by decide +kernel
theorem dX11_pair_7 : decode cX11_pair 7 = .ok (.ifCond .eq 18, 3) := by decide +kernel
theorem dX11_pair_10 : decode cX11_pair 10 = .ok (.iload 4, 2) := by decide +kernel
theorem dX11_pair_12 : decode cX11_pair 12 = .ok (.ifCond .lt 13, 3) := by decide +kernel
theorem dX11_pair_15 : decode cX11_pair 15 = .ok (.iload 5, 2) := by decide +kernel
theorem dX11_pair_17 : decode cX11_pair 17 = .ok (.iconst 0, 1) := by decide +kernel
theorem dX11_pair_18 : decode cX11_pair 18 = .ok (.iconst 1, 1) := by decide +kernel
theorem dX11_pair_19 : decode cX11_pair 19 = .ok (.invokestatic 172, 3) := by decide +kernel
theorem dX11_pair_22 : decode cX11_pair 22 = .ok (.ifCond .ne 6, 3) := by decide +kernel
theorem dX11_pair_25 : decode cX11_pair 25 = .ok (.bipush (-2), 2) := by decide +kernel
theorem dX11_pair_27 : decode cX11_pair 27 = .ok (.ireturn, 1) := by decide +kernel
theorem dX11_pair_28 : decode cX11_pair 28 = .ok (.aload_n 0, 1) := by decide +kernel
theorem dX11_pair_29 : decode cX11_pair 29 = .ok (.iload_n 1, 1) := by decide +kernel
theorem dX11_pair_30 : decode cX11_pair 30 = .ok (.iload_n 2, 1) := by decide +kernel
theorem dX11_pair_31 : decode cX11_pair 31 = .ok (.iload_n 3, 1) := by decide +kernel
theorem dX11_pair_32 : decode cX11_pair 32 = .ok (.invokevirtual 313, 3) := by decide +kernel
theorem dX11_pair_35 : decode cX11_pair 35 = .ok (.iload 4, 2) := by decide +kernel
theorem dX11_pair_37 : decode cX11_pair 37 = .ok (.aload_n 0, 1) := by decide +kernel
theorem dX11_pair_38 : decode cX11_pair 38 = .ok (.getfield 300, 3) := by decide +kernel
theorem dX11_pair_41 : decode cX11_pair 41 = .ok (.if_icmp .lt 7, 3) := by decide +kernel
theorem dX11_pair_44 : decode cX11_pair 44 = .ok (.iconst (-1), 1) := by decide +kernel
theorem dX11_pair_45 : decode cX11_pair 45 = .ok (.goto 25, 3) := by decide +kernel
theorem dX11_pair_48 : decode cX11_pair 48 = .ok (.iload 5, 2) := by decide +kernel
theorem dX11_pair_50 : decode cX11_pair 50 = .ok (.ifCond .ne 13, 3) := by decide +kernel
theorem dX11_pair_53 : decode cX11_pair 53 = .ok (.aload_n 0, 1) := by decide +kernel
theorem dX11_pair_54 : decode cX11_pair 54 = .ok (.getfield 71, 3) := by decide +kernel
theorem dX11_pair_57 : decode cX11_pair 57 = .ok (.iload 4, 2) := by decide +kernel
theorem dX11_pair_59 : decode cX11_pair 59 = .ok (.iaload, 1) := by decide +kernel
theorem dX11_pair_60 : decode cX11_pair 60 = .ok (.goto 10, 3) := by decide +kernel
theorem dX11_pair_63 : decode cX11_pair 63 = .ok (.aload_n 0, 1) := by decide +kernel
theorem dX11_pair_64 : decode cX11_pair 64 = .ok (.getfield 74, 3) := by decide +kernel
theorem dX11_pair_67 : decode cX11_pair 67 = .ok (.iload 4, 2) := by decide +kernel
theorem dX11_pair_69 : decode cX11_pair 69 = .ok (.iaload, 1) := by decide +kernel
theorem dX11_pair_70 : decode cX11_pair 70 = .ok (.ireturn, 1) := by decide +kernel
theorem dX11_right_0 : decode cX11_right 0 = .ok (.aload_n 0, 1) := by decide +kernel
theorem dX11_right_1 : decode cX11_right 1 = .ok (.iload_n 1, 1) := by decide +kernel
theorem dX11_right_2 : decode cX11_right 2 = .ok (.invokevirtual 261, 3) := by decide +kernel
theorem dX11_right_5 : decode cX11_right 5 = .ok (.ifCond .eq 30, 3) := by decide +kernel
theorem dX11_right_8 : decode cX11_right 8 = .ok (.iload_n 2, 1) := by decide +kernel
theorem dX11_right_9 : decode cX11_right 9 = .ok (.iconst 0, 1) := by decide +kernel
theorem dX11_right_10 : decode cX11_right 10 = .ok (.aload_n 0, 1) := by decide +kernel
theorem dX11_right_11 : decode cX11_right 11 = .ok (.getfield 55, 3) := by decide +kernel
theorem dX11_right_14 : decode cX11_right 14 = .ok (.iconst 1, 1) := by decide +kernel
theorem dX11_right_15 : decode cX11_right 15 = .ok (.iaload, 1) := by decide +kernel
theorem dX11_right_16 : decode cX11_right 16 = .ok (.iconst 1, 1) := by decide +kernel
theorem dX11_right_17 : decode cX11_right 17 = .ok (.isub, 1) := by decide +kernel
theorem dX11_right_18 : decode cX11_right 18 = .ok (.invokestatic 172, 3) := by decide +kernel
theorem dX11_right_21 : decode cX11_right 21 = .ok (.ifCond .eq 14, 3) := by decide +kernel
theorem dX11_right_24 : decode cX11_right 24 = .ok (.iload_n 3, 1) := by decide +kernel
theorem dX11_right_25 : decode cX11_right 25 = .ok (.iload 4, 2) := by decide +kernel
theorem dX11_right_27 : decode cX11_right 27 = .ok (.iload 5, 2) := by decide +kernel
theorem dX11_right_29 : decode cX11_right 29 = .ok (.invokestatic 267, 3) := by decide +kernel
theorem dX11_right_32 : decode cX11_right 32 = .ok (.ifCond .ne 6, 3) := by decide +kernel
theorem dX11_right_35 : decode cX11_right 35 = .ok (.bipush (-2), 2) := by decide +kernel
theorem dX11_right_37 : decode cX11_right 37 = .ok (.ireturn, 1) := by decide +kernel
theorem dX11_right_38 : decode cX11_right 38 = .ok (.aload_n 0, 1) := by decide +kernel
theorem dX11_right_39 : decode cX11_right 39 = .ok (.getfield 55, 3) := by decide +kernel
theorem dX11_right_42 : decode cX11_right 42 = .ok (.iconst 2, 1) := by decide +kernel
theorem dX11_right_43 : decode cX11_right 43 = .ok (.iaload, 1) := by decide +kernel
theorem dX11_right_44 : decode cX11_right 44 = .ok (.istore 6, 2) := by decide +kernel
theorem dX11_right_46 : decode cX11_right 46 = .ok (.iload 6, 2) := by decide +kernel
theorem dX11_right_48 : decode cX11_right 48 = .ok (.bipush 20, 2) := by decide +kernel
theorem dX11_right_50 : decode cX11_right 50 = .ok (.if_icmp .ne 6, 3) := by decide +kernel
theorem dX11_right_53 : decode cX11_right 53 = .ok (.bipush (-3), 2) := by decide +kernel
theorem dX11_right_55 : decode cX11_right 55 = .ok (.ireturn, 1) := by decide +kernel
theorem dX11_right_56 : decode cX11_right 56 = .ok (.sipush 754, 3) := by decide +kernel
theorem dX11_right_59 : decode cX11_right 59 = .ok (.iconst 5, 1) := by decide +kernel
theorem dX11_right_60 : decode cX11_right 60 = .ok (.iload 6, 2) := by decide +kernel
theorem dX11_right_62 : decode cX11_right 62 = .ok (.imul, 1) := by decide +kernel
theorem dX11_right_63 : decode cX11_right 63 = .ok (.iadd, 1) := by decide +kernel
theorem dX11_right_64 : decode cX11_right 64 = .ok (.istore 7, 2) := by decide +kernel
theorem dX11_right_66 : decode cX11_right 66 = .ok (.aload_n 0, 1) := by decide +kernel
theorem dX11_right_67 : decode cX11_right 67 = .ok (.getfield 55, 3) := by decide +kernel
theorem dX11_right_70 : decode cX11_right 70 = .ok (.iconst 3, 1) := by decide +kernel
theorem dX11_right_71 : decode cX11_right 71 = .ok (.iload_n 1, 1) := by decide +kernel
theorem dX11_right_72 : decode cX11_right 72 = .ok (.iastore, 1) := by decide +kernel
theorem dX11_right_73 : decode cX11_right 73 = .ok (.aload_n 0, 1) := by decide +kernel
theorem dX11_right_74 : decode cX11_right 74 = .ok (.getfield 55, 3) := by decide +kernel
theorem dX11_right_77 : decode cX11_right 77 = .ok (.iload 7, 2) := by decide +kernel
theorem dX11_right_79 : decode cX11_right 79 = .ok (.iload_n 1, 1) := by decide +kernel
theorem dX11_right_80 : decode cX11_right 80 = .ok (.iastore, 1) := by decide +kernel
theorem dX11_right_81 : decode cX11_right 81 = .ok (.aload_n 0, 1) := by decide +kernel
theorem dX11_right_82 : decode cX11_right 82 = .ok (.getfield 55, 3) := by decide +kernel
theorem dX11_right_85 : decode cX11_right 85 = .ok (.iload 7, 2) := by decide +kernel
theorem dX11_right_87 : decode cX11_right 87 = .ok (.iconst 1, 1) := by decide +kernel
theorem dX11_right_88 : decode cX11_right 88 = .ok (.iadd, 1) := by decide +kernel
theorem dX11_right_89 : decode cX11_right 89 = .ok (.iload_n 2, 1) := by decide +kernel
theorem dX11_right_90 : decode cX11_right 90 = .ok (.iastore, 1) := by decide +kernel
theorem dX11_right_91 : decode cX11_right 91 = .ok (.aload_n 0, 1) := by decide +kernel
theorem dX11_right_92 : decode cX11_right 92 = .ok (.getfield 55, 3) := by decide +kernel
theorem dX11_right_95 : decode cX11_right 95 = .ok (.iload 7, 2) := by decide +kernel
theorem dX11_right_97 : decode cX11_right 97 = .ok (.iconst 2, 1) := by decide +kernel
theorem dX11_right_98 : decode cX11_right 98 = .ok (.iadd, 1) := by decide +kernel
theorem dX11_right_99 : decode cX11_right 99 = .ok (.iload_n 3, 1) := by decide +kernel
theorem dX11_right_100 : decode cX11_right 100 = .ok (.iastore, 1) := by decide +kernel
theorem dX11_right_101 : decode cX11_right 101 = .ok (.aload_n 0, 1) := by decide +kernel
theorem dX11_right_102 : decode cX11_right 102 = .ok (.getfield 55, 3) := by decide +kernel
theorem dX11_right_105 : decode cX11_right 105 = .ok (.iload 7, 2) := by decide +kernel
theorem dX11_right_107 : decode cX11_right 107 = .ok (.iconst 3, 1) := by decide +kernel
theorem dX11_right_108 : decode cX11_right 108 = .ok (.iadd, 1) := by decide +kernel
theorem dX11_right_109 : decode cX11_right 109 = .ok (.iload 4, 2) := by decide +kernel
theorem dX11_right_111 : decode cX11_right 111 = .ok (.iastore, 1) := by decide +kernel
theorem dX11_right_112 : decode cX11_right 112 = .ok (.aload_n 0, 1) := by decide +kernel
theorem dX11_right_113 : decode cX11_right 113 = .ok (.getfield 55, 3) := by decide +kernel
theorem dX11_right_116 : decode cX11_right 116 = .ok (.iload 7, 2) := by decide +kernel
theorem dX11_right_118 : decode cX11_right 118 = .ok (.iconst 4, 1) := by decide +kernel
theorem dX11_right_119 : decode cX11_right 119 = .ok (.iadd, 1) := by decide +kernel
theorem dX11_right_120 : decode cX11_right 120 = .ok (.iload 5, 2) := by decide +kernel
theorem dX11_right_122 : decode cX11_right 122 = .ok (.iastore, 1) := by decide +kernel
theorem dX11_right_123 : decode cX11_right 123 = .ok (.aload_n 0, 1) := by decide +kernel
theorem dX11_right_124 : decode cX11_right 124 = .ok (.getfield 55, 3) := by decide +kernel
theorem dX11_right_127 : decode cX11_right 127 = .ok (.iconst 2, 1) := by decide +kernel
theorem dX11_right_128 : decode cX11_right 128 = .ok (.dup2, 1) := by decide +kernel
theorem dX11_right_129 : decode cX11_right 129 = .ok (.iaload, 1) := by decide +kernel
theorem dX11_right_130 : decode cX11_right 130 = .ok (.iconst 1, 1) := by decide +kernel
theorem dX11_right_131 : decode cX11_right 131 = .ok (.iadd, 1) := by decide +kernel
theorem dX11_right_132 : decode cX11_right 132 = .ok (.iastore, 1) := by decide +kernel
theorem dX11_right_133 : decode cX11_right 133 = .ok (.iconst 0, 1) := by decide +kernel
theorem dX11_right_134 : decode cX11_right 134 = .ok (.istore 8, 2) := by decide +kernel
theorem dX11_right_136 : decode cX11_right 136 = .ok (.iconst 0, 1) := by decide +kernel
theorem dX11_right_137 : decode cX11_right 137 = .ok (.istore 9, 2) := by decide +kernel
theorem dX11_right_139 : decode cX11_right 139 = .ok (.iload 9, 2) := by decide +kernel
theorem dX11_right_141 : decode cX11_right 141 = .ok (.iload 6, 2) := by decide +kernel
theorem dX11_right_143 : decode cX11_right 143 = .ok (.if_icmp .gt 38, 3) := by decide +kernel
theorem dX11_right_146 : decode cX11_right 146 = .ok (.iload 8, 2) := by decide +kernel
theorem dX11_right_148 : decode cX11_right 148 = .ok (.aload_n 0, 1) := by decide +kernel
theorem dX11_right_149 : decode cX11_right 149 = .ok (.getfield 55, 3) := by decide +kernel
theorem dX11_right_152 : decode cX11_right 152 = .ok (.sipush 754, 3) := by decide +kernel
theorem dX11_right_155 : decode cX11_right 155 = .ok (.iconst 5, 1) := by decide +kernel
theorem dX11_right_156 : decode cX11_right 156 = .ok (.iload 9, 2) := by decide +kernel
theorem dX11_right_158 : decode cX11_right 158 = .ok (.imul, 1) := by decide +kernel
theorem dX11_right_159 : decode cX11_right 159 = .ok (.iadd, 1) := by decide +kernel
theorem dX11_right_160 : decode cX11_right 160 = .ok (.iconst 1, 1) := by decide +kernel
theorem dX11_right_161 : decode cX11_right 161 = .ok (.iadd, 1) := by decide +kernel
theorem dX11_right_162 : decode cX11_right 162 = .ok (.iaload, 1) := by decide +kernel
theorem dX11_right_163 : decode cX11_right 163 = .ok (.iload_n 2, 1) := by decide +kernel
theorem dX11_right_164 : decode cX11_right 164 = .ok (.if_icmp .ne 7, 3) := by decide +kernel
theorem dX11_right_167 : decode cX11_right 167 = .ok (.iconst 1, 1) := by decide +kernel
theorem dX11_right_168 : decode cX11_right 168 = .ok (.goto 4, 3) := by decide +kernel
theorem dX11_right_171 : decode cX11_right 171 = .ok (.iconst 0, 1) := by decide +kernel
theorem dX11_right_172 : decode cX11_right 172 = .ok (.iadd, 1) := by decide +kernel
theorem dX11_right_173 : decode cX11_right 173 = .ok (.istore 8, 2) := by decide +kernel
theorem dX11_right_175 : decode cX11_right 175 = .ok (.iinc 9 1, 3) := by decide +kernel
theorem dX11_right_178 : decode cX11_right 178 = .ok (.goto (-39), 3) := by decide +kernel
theorem dX11_right_181 : decode cX11_right 181 = .ok (.iload 8, 2) := by decide +kernel
theorem dX11_right_183 : decode cX11_right 183 = .ok (.ireturn, 1) := by decide +kernel
theorem dX11_shows_0 : decode cX11_shows 0 = .ok (.aload_n 0, 1) := by decide +kernel
theorem dX11_shows_1 : decode cX11_shows 1 = .ok (.iload_n 1, 1) := by decide +kernel
theorem dX11_shows_2 : decode cX11_shows 2 = .ok (.invokevirtual 264, 3) := by decide +kernel
theorem dX11_shows_5 : decode cX11_shows 5 = .ok (.ifCond .eq 27, 3) := by decide +kernel
theorem dX11_shows_8 : decode cX11_shows 8 = .ok (.iload_n 2, 1) := by decide +kernel
theorem dX11_shows_9 : decode cX11_shows 9 = .ok (.iconst 0, 1) := by decide +kernel
theorem dX11_shows_10 : decode cX11_shows 10 = .ok (.iconst 1, 1) := by decide +kernel
theorem dX11_shows_11 : decode cX11_shows 11 = .ok (.invokestatic 172, 3) := by decide +kernel
theorem dX11_shows_14 : decode cX11_shows 14 = .ok (.ifCond .eq 18, 3) := by decide +kernel
theorem dX11_shows_17 : decode cX11_shows 17 = .ok (.iload_n 3, 1) := by decide +kernel
theorem dX11_shows_18 : decode cX11_shows 18 = .ok (.invokestatic 274, 3) := by decide +kernel
theorem dX11_shows_21 : decode cX11_shows 21 = .ok (.ifCond .eq 11, 3) := by decide +kernel
theorem dX11_shows_24 : decode cX11_shows 24 = .ok (.iload 4, 2) := by decide +kernel
theorem dX11_shows_26 : decode cX11_shows 26 = .ok (.invokestatic 254, 3) := by decide +kernel
theorem dX11_shows_29 : decode cX11_shows 29 = .ok (.ifCond .ne 6, 3) := by decide +kernel
theorem dX11_shows_32 : decode cX11_shows 32 = .ok (.bipush (-2), 2) := by decide +kernel
theorem dX11_shows_34 : decode cX11_shows 34 = .ok (.ireturn, 1) := by decide +kernel
theorem dX11_shows_35 : decode cX11_shows 35 = .ok (.aload_n 0, 1) := by decide +kernel
theorem dX11_shows_36 : decode cX11_shows 36 = .ok (.iload_n 1, 1) := by decide +kernel
theorem dX11_shows_37 : decode cX11_shows 37 = .ok (.iload_n 2, 1) := by decide +kernel
theorem dX11_shows_38 : decode cX11_shows 38 = .ok (.iload_n 3, 1) := by decide +kernel
theorem dX11_shows_39 : decode cX11_shows 39 = .ok (.invokevirtual 277, 3) := by decide +kernel
theorem dX11_shows_42 : decode cX11_shows 42 = .ok (.istore 5, 2) := by decide +kernel
theorem dX11_shows_44 : decode cX11_shows 44 = .ok (.iload 5, 2) := by decide +kernel
theorem dX11_shows_46 : decode cX11_shows 46 = .ok (.ifCond .ge 7, 3) := by decide +kernel
theorem dX11_shows_49 : decode cX11_shows 49 = .ok (.iconst (-1), 1) := by decide +kernel
theorem dX11_shows_50 : decode cX11_shows 50 = .ok (.goto 34, 3) := by decide +kernel
theorem dX11_shows_53 : decode cX11_shows 53 = .ok (.aload_n 0, 1) := by decide +kernel
theorem dX11_shows_54 : decode cX11_shows 54 = .ok (.getfield 55, 3) := by decide +kernel
theorem dX11_shows_57 : decode cX11_shows 57 = .ok (.iload 5, 2) := by decide +kernel
theorem dX11_shows_59 : decode cX11_shows 59 = .ok (.bipush 6, 2) := by decide +kernel
theorem dX11_shows_61 : decode cX11_shows 61 = .ok (.iadd, 1) := by decide +kernel
theorem dX11_shows_62 : decode cX11_shows 62 = .ok (.iaload, 1) := by decide +kernel
theorem dX11_shows_63 : decode cX11_shows 63 = .ok (.iconst 1, 1) := by decide +kernel
theorem dX11_shows_64 : decode cX11_shows 64 = .ok (.if_icmp .ne 8, 3) := by decide +kernel
theorem dX11_shows_67 : decode cX11_shows 67 = .ok (.bipush (-5), 2) := by decide +kernel
theorem dX11_shows_69 : decode cX11_shows 69 = .ok (.goto 15, 3) := by decide +kernel
theorem dX11_shows_72 : decode cX11_shows 72 = .ok (.aload_n 0, 1) := by decide +kernel
theorem dX11_shows_73 : decode cX11_shows 73 = .ok (.getfield 55, 3) := by decide +kernel
theorem dX11_shows_76 : decode cX11_shows 76 = .ok (.iload 5, 2) := by decide +kernel
theorem dX11_shows_78 : decode cX11_shows 78 = .ok (.iconst 3, 1) := by decide +kernel
theorem dX11_shows_79 : decode cX11_shows 79 = .ok (.iadd, 1) := by decide +kernel
theorem dX11_shows_80 : decode cX11_shows 80 = .ok (.iload 4, 2) := by decide +kernel
theorem dX11_shows_82 : decode cX11_shows 82 = .ok (.iadd, 1) := by decide +kernel
theorem dX11_shows_83 : decode cX11_shows 83 = .ok (.iaload, 1) := by decide +kernel
theorem dX11_shows_84 : decode cX11_shows 84 = .ok (.ireturn, 1) := by decide +kernel
theorem dX11_stories_0 : decode cX11_stories 0 = .ok (.iload_n 1, 1) := by decide +kernel
theorem dX11_stories_1 : decode cX11_stories 1 = .ok (.invokestatic 274, 3) := by decide +kernel
theorem dX11_stories_4 : decode cX11_stories 4 = .ok (.ifCond .ne 6, 3) := by decide +kernel
theorem dX11_stories_7 : decode cX11_stories 7 = .ok (.bipush (-2), 2) := by decide +kernel
theorem dX11_stories_9 : decode cX11_stories 9 = .ok (.ireturn, 1) := by decide +kernel
theorem dX11_stories_10 : decode cX11_stories 10 = .ok (.iconst 0, 1) := by decide +kernel
theorem dX11_stories_11 : decode cX11_stories 11 = .ok (.istore_n 2, 1) := by decide +kernel
theorem dX11_stories_12 : decode cX11_stories 12 = .ok (.iconst 0, 1) := by decide +kernel
theorem dX11_stories_13 : decode cX11_stories 13 = .ok (.istore_n 3, 1) := by decide +kernel
theorem dX11_stories_14 : decode cX11_stories 14 = .ok (.iload_n 3, 1) := by decide +kernel
theorem dX11_stories_15 : decode cX11_stories 15 = .ok (.aload_n 0, 1) := by decide +kernel
theorem dX11_stories_16 : decode cX11_stories 16 = .ok (.getfield 17, 3) := by decide +kernel
theorem dX11_stories_19 : decode cX11_stories 19 = .ok (.iconst 5, 1) := by decide +kernel
theorem dX11_stories_20 : decode cX11_stories 20 = .ok (.iaload, 1) := by decide +kernel
theorem dX11_stories_21 : decode cX11_stories 21 = .ok (.if_icmp .ge 89, 3) := by decide +kernel
theorem dX11_stories_24 : decode cX11_stories 24 = .ok (.iconst 1, 1) := by decide +kernel
theorem dX11_stories_25 : decode cX11_stories 25 = .ok (.istore 4, 2) := by decide +kernel
theorem dX11_stories_27 : decode cX11_stories 27 = .ok (.iconst 0, 1) := by decide +kernel
theorem dX11_stories_28 : decode cX11_stories 28 = .ok (.istore 5, 2) := by decide +kernel
theorem dX11_stories_30 : decode cX11_stories 30 = .ok (.iload 5, 2) := by decide +kernel
theorem dX11_stories_32 : decode cX11_stories 32 = .ok (.aload_n 0, 1) := by decide +kernel
theorem dX11_stories_33 : decode cX11_stories 33 = .ok (.invokevirtual 222, 3) := by decide +kernel
theorem dX11_stories_36 : decode cX11_stories 36 = .ok (.if_icmp .ge 53, 3) := by decide +kernel
theorem dX11_stories_39 : decode cX11_stories 39 = .ok (.iload 4, 2) := by decide +kernel
theorem dX11_stories_41 : decode cX11_stories 41 = .ok (.ifCond .eq 48, 3) := by decide +kernel
theorem dX11_stories_44 : decode cX11_stories 44 = .ok (.aload_n 0, 1) := by decide +kernel
theorem dX11_stories_45 : decode cX11_stories 45 = .ok (.iload 5, 2) := by decide +kernel
theorem dX11_stories_47 : decode cX11_stories 47 = .ok (.iload_n 1, 1) := by decide +kernel
theorem dX11_stories_48 : decode cX11_stories 48 = .ok (.invokevirtual 293, 3) := by decide +kernel
theorem dX11_stories_51 : decode cX11_stories 51 = .ok (.aload_n 0, 1) := by decide +kernel
theorem dX11_stories_52 : decode cX11_stories 52 = .ok (.getfield 283, 3) := by decide +kernel
theorem dX11_stories_55 : decode cX11_stories 55 = .ok (.ifCond .ne 6, 3) := by decide +kernel
theorem dX11_stories_58 : decode cX11_stories 58 = .ok (.goto 25, 3) := by decide +kernel
theorem dX11_stories_61 : decode cX11_stories 61 = .ok (.aload_n 0, 1) := by decide +kernel
theorem dX11_stories_62 : decode cX11_stories 62 = .ok (.iload 5, 2) := by decide +kernel
theorem dX11_stories_64 : decode cX11_stories 64 = .ok (.iload_n 3, 1) := by decide +kernel
theorem dX11_stories_65 : decode cX11_stories 65 = .ok (.iload_n 1, 1) := by decide +kernel
theorem dX11_stories_66 : decode cX11_stories 66 = .ok (.invokevirtual 313, 3) := by decide +kernel
theorem dX11_stories_69 : decode cX11_stories 69 = .ok (.aload_n 0, 1) := by decide +kernel
theorem dX11_stories_70 : decode cX11_stories 70 = .ok (.getfield 300, 3) := by decide +kernel
theorem dX11_stories_73 : decode cX11_stories 73 = .ok (.ifCond .le 7, 3) := by decide +kernel
theorem dX11_stories_76 : decode cX11_stories 76 = .ok (.iconst 1, 1) := by decide +kernel
theorem dX11_stories_77 : decode cX11_stories 77 = .ok (.goto 4, 3) := by decide +kernel
theorem dX11_stories_80 : decode cX11_stories 80 = .ok (.iconst 0, 1) := by decide +kernel
theorem dX11_stories_81 : decode cX11_stories 81 = .ok (.istore 4, 2) := by decide +kernel
theorem dX11_stories_83 : decode cX11_stories 83 = .ok (.iinc 5 1, 3) := by decide +kernel
theorem dX11_stories_86 : decode cX11_stories 86 = .ok (.goto (-56), 3) := by decide +kernel
theorem dX11_stories_89 : decode cX11_stories 89 = .ok (.iload_n 2, 1) := by decide +kernel
theorem dX11_stories_90 : decode cX11_stories 90 = .ok (.iload 4, 2) := by decide +kernel
theorem dX11_stories_92 : decode cX11_stories 92 = .ok (.ifCond .eq 9, 3) := by decide +kernel
theorem dX11_stories_95 : decode cX11_stories 95 = .ok (.iconst 1, 1) := by decide +kernel
theorem dX11_stories_96 : decode cX11_stories 96 = .ok (.iload_n 3, 1) := by decide +kernel
theorem dX11_stories_97 : decode cX11_stories 97 = .ok (.ishl, 1) := by decide +kernel
theorem dX11_stories_98 : decode cX11_stories 98 = .ok (.goto 4, 3) := by decide +kernel
theorem dX11_stories_101 : decode cX11_stories 101 = .ok (.iconst 0, 1) := by decide +kernel
theorem dX11_stories_102 : decode cX11_stories 102 = .ok (.ior, 1) := by decide +kernel
theorem dX11_stories_103 : decode cX11_stories 103 = .ok (.istore_n 2, 1) := by decide +kernel
theorem dX11_stories_104 : decode cX11_stories 104 = .ok (.iinc 3 1, 3) := by decide +kernel
theorem dX11_stories_107 : decode cX11_stories 107 = .ok (.goto (-93), 3) := by decide +kernel
theorem dX11_stories_110 : decode cX11_stories 110 = .ok (.iload_n 2, 1) := by decide +kernel
theorem dX11_stories_111 : decode cX11_stories 111 = .ok (.ireturn, 1) := by decide +kernel
theorem dX11_strength_0 : decode cX11_strength 0 = .ok (.aload_n 0, 1) := by decide +kernel
theorem dX11_strength_1 : decode cX11_strength 1 = .ok (.iload_n 1, 1) := by decide +kernel
theorem dX11_strength_2 : decode cX11_strength 2 = .ok (.invokevirtual 232, 3) := by decide +kernel
theorem dX11_strength_5 : decode cX11_strength 5 = .ok (.ifCond .eq 19, 3) := by decide +kernel
theorem dX11_strength_8 : decode cX11_strength 8 = .ok (.iload_n 2, 1) := by decide +kernel
theorem dX11_strength_9 : decode cX11_strength 9 = .ok (.invokestatic 235, 3) := by decide +kernel
theorem dX11_strength_12 : decode cX11_strength 12 = .ok (.ifCond .eq 12, 3) := by decide +kernel
theorem dX11_strength_15 : decode cX11_strength 15 = .ok (.aload_n 0, 1) := by decide +kernel
theorem dX11_strength_16 : decode cX11_strength 16 = .ok (.iload_n 1, 1) := by decide +kernel
theorem dX11_strength_17 : decode cX11_strength 17 = .ok (.iload_n 2, 1) := by decide +kernel
theorem dX11_strength_18 : decode cX11_strength 18 = .ok (.invokevirtual 238, 3) := by decide +kernel
theorem dX11_strength_21 : decode cX11_strength 21 = .ok (.goto 5, 3) := by decide +kernel
theorem dX11_strength_24 : decode cX11_strength 24 = .ok (.bipush (-2), 2) := by decide +kernel
theorem dX11_strength_26 : decode cX11_strength 26 = .ok (.ireturn, 1) := by decide +kernel
theorem dX11_take_0 : decode cX11_take 0 = .ok (.iload_n 1, 1) := by decide +kernel
theorem dX11_take_1 : decode cX11_take 1 = .ok (.invokestatic 280, 3) := by decide +kernel
theorem dX11_take_4 : decode cX11_take 4 = .ok (.ifCond .ne 6, 3) := by decide +kernel
theorem dX11_take_7 : decode cX11_take 7 = .ok (.bipush (-2), 2) := by decide +kernel
theorem dX11_take_9 : decode cX11_take 9 = .ok (.ireturn, 1) := by decide +kernel
theorem dX11_take_10 : decode cX11_take 10 = .ok (.aload_n 0, 1) := by decide +kernel
theorem dX11_take_11 : decode cX11_take 11 = .ok (.getfield 58, 3) := by decide +kernel
theorem dX11_take_14 : decode cX11_take 14 = .ok (.iload_n 1, 1) := by decide +kernel
theorem dX11_take_15 : decode cX11_take 15 = .ok (.baload, 1) := by decide +kernel
theorem dX11_take_16 : decode cX11_take 16 = .ok (.ifCond .ne 6, 3) := by decide +kernel
theorem dX11_take_19 : decode cX11_take 19 = .ok (.bipush (-4), 2) := by decide +kernel
theorem dX11_take_21 : decode cX11_take 21 = .ok (.ireturn, 1) := by decide +kernel
theorem dX11_take_22 : decode cX11_take 22 = .ok (.iconst 0, 1) := by decide +kernel
theorem dX11_take_23 : decode cX11_take 23 = .ok (.istore_n 2, 1) := by decide +kernel
theorem dX11_take_24 : decode cX11_take 24 = .ok (.iload_n 2, 1) := by decide +kernel
theorem dX11_take_25 : decode cX11_take 25 = .ok (.sipush 854, 3) := by decide +kernel
theorem dX11_take_28 : decode cX11_take 28 = .ok (.if_icmp .ge 29, 3) := by decide +kernel
theorem dX11_take_31 : decode cX11_take 31 = .ok (.aload_n 0, 1) := by decide +kernel
theorem dX11_take_32 : decode cX11_take 32 = .ok (.getfield 55, 3) := by decide +kernel
theorem dX11_take_35 : decode cX11_take 35 = .ok (.iload_n 2, 1) := by decide +kernel
theorem dX11_take_36 : decode cX11_take 36 = .ok (.aload_n 0, 1) := by decide +kernel
theorem dX11_take_37 : decode cX11_take 37 = .ok (.getfield 55, 3) := by decide +kernel
theorem dX11_take_40 : decode cX11_take 40 = .ok (.sipush 854, 3) := by decide +kernel
theorem dX11_take_43 : decode cX11_take 43 = .ok (.iload_n 1, 1) := by decide +kernel
theorem dX11_take_44 : decode cX11_take 44 = .ok (.iconst 1, 1) := by decide +kernel
theorem dX11_take_45 : decode cX11_take 45 = .ok (.iadd, 1) := by decide +kernel
theorem dX11_take_46 : decode cX11_take 46 = .ok (.imul, 1) := by decide +kernel
theorem dX11_take_47 : decode cX11_take 47 = .ok (.iload_n 2, 1) := by decide +kernel
theorem dX11_take_48 : decode cX11_take 48 = .ok (.iadd, 1) := by decide +kernel
theorem dX11_take_49 : decode cX11_take 49 = .ok (.iaload, 1) := by decide +kernel
theorem dX11_take_50 : decode cX11_take 50 = .ok (.iastore, 1) := by decide +kernel
theorem dX11_take_51 : decode cX11_take 51 = .ok (.iinc 2 1, 3) := by decide +kernel
theorem dX11_take_54 : decode cX11_take 54 = .ok (.goto (-30), 3) := by decide +kernel
theorem dX11_take_57 : decode cX11_take 57 = .ok (.aload_n 0, 1) := by decide +kernel
theorem dX11_take_58 : decode cX11_take 58 = .ok (.getfield 55, 3) := by decide +kernel
theorem dX11_take_61 : decode cX11_take 61 = .ok (.iconst 0, 1) := by decide +kernel
theorem dX11_take_62 : decode cX11_take 62 = .ok (.iaload, 1) := by decide +kernel
theorem dX11_take_63 : decode cX11_take 63 = .ok (.ireturn, 1) := by decide +kernel
theorem dX11_thrown_0 : decode cX11_thrown 0 = .ok (.aload_n 0, 1) := by decide +kernel
theorem dX11_thrown_1 : decode cX11_thrown 1 = .ok (.iload_n 1, 1) := by decide +kernel
theorem dX11_thrown_2 : decode cX11_thrown 2 = .ok (.invokevirtual 264, 3) := by decide +kernel
theorem dX11_thrown_5 : decode cX11_thrown 5 = .ok (.ifCond .eq 37, 3) := by decide +kernel
theorem dX11_thrown_8 : decode cX11_thrown 8 = .ok (.aload_n 0, 1) := by decide +kernel
theorem dX11_thrown_9 : decode cX11_thrown 9 = .ok (.iload_n 2, 1) := by decide +kernel
theorem dX11_thrown_10 : decode cX11_thrown 10 = .ok (.invokevirtual 345, 3) := by decide +kernel
theorem dX11_thrown_13 : decode cX11_thrown 13 = .ok (.ifCond .eq 29, 3) := by decide +kernel
theorem dX11_thrown_16 : decode cX11_thrown 16 = .ok (.aload_n 0, 1) := by decide +kernel
theorem dX11_thrown_17 : decode cX11_thrown 17 = .ok (.iload_n 3, 1) := by decide +kernel
theorem dX11_thrown_18 : decode cX11_thrown 18 = .ok (.invokevirtual 225, 3) := by decide +kernel
theorem dX11_thrown_21 : decode cX11_thrown 21 = .ok (.ifCond .eq 21, 3) := by decide +kernel
theorem dX11_thrown_24 : decode cX11_thrown 24 = .ok (.iload 4, 2) := by decide +kernel
theorem dX11_thrown_26 : decode cX11_thrown 26 = .ok (.invokestatic 320, 3) := by decide +kernel
theorem dX11_thrown_29 : decode cX11_thrown 29 = .ok (.ifCond .eq 13, 3) := by decide +kernel
theorem dX11_thrown_32 : decode cX11_thrown 32 = .ok (.iload 5, 2) := by decide +kernel
theorem dX11_thrown_34 : decode cX11_thrown 34 = .ok (.iconst 0, 1) := by decide +kernel
theorem dX11_thrown_35 : decode cX11_thrown 35 = .ok (.iconst 3, 1) := by decide +kernel
theorem dX11_thrown_36 : decode cX11_thrown 36 = .ok (.invokestatic 172, 3) := by decide +kernel
theorem dX11_thrown_39 : decode cX11_thrown 39 = .ok (.ifCond .ne 6, 3) := by decide +kernel
theorem dX11_thrown_42 : decode cX11_thrown 42 = .ok (.bipush (-2), 2) := by decide +kernel
theorem dX11_thrown_44 : decode cX11_thrown 44 = .ok (.ireturn, 1) := by decide +kernel
theorem dX11_thrown_45 : decode cX11_thrown 45 = .ok (.aload_n 0, 1) := by decide +kernel
theorem dX11_thrown_46 : decode cX11_thrown 46 = .ok (.iload_n 1, 1) := by decide +kernel
theorem dX11_thrown_47 : decode cX11_thrown 47 = .ok (.invokevirtual 348, 3) := by decide +kernel
theorem dX11_thrown_50 : decode cX11_thrown 50 = .ok (.istore 6, 2) := by decide +kernel
theorem dX11_thrown_52 : decode cX11_thrown 52 = .ok (.iload 6, 2) := by decide +kernel
theorem dX11_thrown_54 : decode cX11_thrown 54 = .ok (.ifCond .ge 5, 3) := by decide +kernel
theorem dX11_thrown_57 : decode cX11_thrown 57 = .ok (.iconst (-1), 1) := by decide +kernel
theorem dX11_thrown_58 : decode cX11_thrown 58 = .ok (.ireturn, 1) := by decide +kernel
theorem dX11_thrown_59 : decode cX11_thrown 59 = .ok (.aload_n 0, 1) := by decide +kernel
theorem dX11_thrown_60 : decode cX11_thrown 60 = .ok (.iload_n 1, 1) := by decide +kernel
theorem dX11_thrown_61 : decode cX11_thrown 61 = .ok (.iload 6, 2) := by decide +kernel
theorem dX11_thrown_63 : decode cX11_thrown 63 = .ok (.iload_n 2, 1) := by decide +kernel
theorem dX11_thrown_64 : decode cX11_thrown 64 = .ok (.iload_n 3, 1) := by decide +kernel
theorem dX11_thrown_65 : decode cX11_thrown 65 = .ok (.iload 4, 2) := by decide +kernel
theorem dX11_thrown_67 : decode cX11_thrown 67 = .ok (.invokevirtual 351, 3) := by decide +kernel
theorem dX11_thrown_70 : decode cX11_thrown 70 = .ok (.iload 5, 2) := by decide +kernel
theorem dX11_thrown_72 : decode cX11_thrown 72 = .ok (.iconst 3, 1) := by decide +kernel
theorem dX11_thrown_73 : decode cX11_thrown 73 = .ok (.if_icmp .ne 10, 3) := by decide +kernel
theorem dX11_thrown_76 : decode cX11_thrown 76 = .ok (.aload_n 0, 1) := by decide +kernel
theorem dX11_thrown_77 : decode cX11_thrown 77 = .ok (.getfield 342, 3) := by decide +kernel
theorem dX11_thrown_80 : decode cX11_thrown 80 = .ok (.goto 10, 3) := by decide +kernel
theorem dX11_thrown_83 : decode cX11_thrown 83 = .ok (.aload_n 0, 1) := by decide +kernel
theorem dX11_thrown_84 : decode cX11_thrown 84 = .ok (.getfield 101, 3) := by decide +kernel
theorem dX11_thrown_87 : decode cX11_thrown 87 = .ok (.iload 5, 2) := by decide +kernel
theorem dX11_thrown_89 : decode cX11_thrown 89 = .ok (.iaload, 1) := by decide +kernel
theorem dX11_thrown_90 : decode cX11_thrown 90 = .ok (.ireturn, 1) := by decide +kernel
theorem dX11_told_0 : decode cX11_told 0 = .ok (.iload_n 1, 1) := by decide +kernel
theorem dX11_told_1 : decode cX11_told 1 = .ok (.iconst 0, 1) := by decide +kernel
theorem dX11_told_2 : decode cX11_told 2 = .ok (.bipush 7, 2) := by decide +kernel
theorem dX11_told_4 : decode cX11_told 4 = .ok (.invokestatic 172, 3) := by decide +kernel
theorem dX11_told_7 : decode cX11_told 7 = .ok (.ifCond .eq 110, 3) := by decide +kernel
theorem dX11_told_10 : decode cX11_told 10 = .ok (.iload_n 1, 1) := by decide +kernel
theorem dX11_told_11 : decode cX11_told 11 = .ok (.ifCond .ne 12, 3) := by decide +kernel
theorem dX11_told_14 : decode cX11_told 14 = .ok (.aload_n 0, 1) := by decide +kernel
theorem dX11_told_15 : decode cX11_told 15 = .ok (.getfield 17, 3) := by decide +kernel
theorem dX11_told_18 : decode cX11_told 18 = .ok (.iconst 0, 1) := by decide +kernel
theorem dX11_told_19 : decode cX11_told 19 = .ok (.iaload, 1) := by decide +kernel
theorem dX11_told_20 : decode cX11_told 20 = .ok (.goto 96, 3) := by decide +kernel
theorem dX11_told_23 : decode cX11_told 23 = .ok (.iload_n 1, 1) := by decide +kernel
theorem dX11_told_24 : decode cX11_told 24 = .ok (.iconst 1, 1) := by decide +kernel
theorem dX11_told_25 : decode cX11_told 25 = .ok (.if_icmp .ne 12, 3) := by decide +kernel
theorem dX11_told_28 : decode cX11_told 28 = .ok (.aload_n 0, 1) := by decide +kernel
theorem dX11_told_29 : decode cX11_told 29 = .ok (.getfield 17, 3) := by decide +kernel
theorem dX11_told_32 : decode cX11_told 32 = .ok (.iconst 1, 1) := by decide +kernel
theorem dX11_told_33 : decode cX11_told 33 = .ok (.iaload, 1) := by decide +kernel
theorem dX11_told_34 : decode cX11_told 34 = .ok (.goto 82, 3) := by decide +kernel
theorem dX11_told_37 : decode cX11_told 37 = .ok (.iload_n 1, 1) := by decide +kernel
theorem dX11_told_38 : decode cX11_told 38 = .ok (.iconst 2, 1) := by decide +kernel
theorem dX11_told_39 : decode cX11_told 39 = .ok (.if_icmp .ne 12, 3) := by decide +kernel
theorem dX11_told_42 : decode cX11_told 42 = .ok (.aload_n 0, 1) := by decide +kernel
theorem dX11_told_43 : decode cX11_told 43 = .ok (.getfield 17, 3) := by decide +kernel
theorem dX11_told_46 : decode cX11_told 46 = .ok (.iconst 2, 1) := by decide +kernel
theorem dX11_told_47 : decode cX11_told 47 = .ok (.iaload, 1) := by decide +kernel
theorem dX11_told_48 : decode cX11_told 48 = .ok (.goto 68, 3) := by decide +kernel
theorem dX11_told_51 : decode cX11_told 51 = .ok (.iload_n 1, 1) := by decide +kernel
theorem dX11_told_52 : decode cX11_told 52 = .ok (.iconst 3, 1) := by decide +kernel
theorem dX11_told_53 : decode cX11_told 53 = .ok (.if_icmp .ne 12, 3) := by decide +kernel
theorem dX11_told_56 : decode cX11_told 56 = .ok (.aload_n 0, 1) := by decide +kernel
theorem dX11_told_57 : decode cX11_told 57 = .ok (.getfield 17, 3) := by decide +kernel
theorem dX11_told_60 : decode cX11_told 60 = .ok (.iconst 3, 1) := by decide +kernel
theorem dX11_told_61 : decode cX11_told 61 = .ok (.iaload, 1) := by decide +kernel
theorem dX11_told_62 : decode cX11_told 62 = .ok (.goto 54, 3) := by decide +kernel
theorem dX11_told_65 : decode cX11_told 65 = .ok (.iload_n 1, 1) := by decide +kernel
theorem dX11_told_66 : decode cX11_told 66 = .ok (.iconst 4, 1) := by decide +kernel
theorem dX11_told_67 : decode cX11_told 67 = .ok (.if_icmp .ne 12, 3) := by decide +kernel
theorem dX11_told_70 : decode cX11_told 70 = .ok (.aload_n 0, 1) := by decide +kernel
theorem dX11_told_71 : decode cX11_told 71 = .ok (.getfield 17, 3) := by decide +kernel
theorem dX11_told_74 : decode cX11_told 74 = .ok (.iconst 4, 1) := by decide +kernel
theorem dX11_told_75 : decode cX11_told 75 = .ok (.iaload, 1) := by decide +kernel
theorem dX11_told_76 : decode cX11_told 76 = .ok (.goto 40, 3) := by decide +kernel
theorem dX11_told_79 : decode cX11_told 79 = .ok (.iload_n 1, 1) := by decide +kernel
theorem dX11_told_80 : decode cX11_told 80 = .ok (.iconst 5, 1) := by decide +kernel
theorem dX11_told_81 : decode cX11_told 81 = .ok (.if_icmp .ne 12, 3) := by decide +kernel
theorem dX11_told_84 : decode cX11_told 84 = .ok (.aload_n 0, 1) := by decide +kernel
theorem dX11_told_85 : decode cX11_told 85 = .ok (.getfield 17, 3) := by decide +kernel
theorem dX11_told_88 : decode cX11_told 88 = .ok (.iconst 5, 1) := by decide +kernel
theorem dX11_told_89 : decode cX11_told 89 = .ok (.iaload, 1) := by decide +kernel
theorem dX11_told_90 : decode cX11_told 90 = .ok (.goto 26, 3) := by decide +kernel
theorem dX11_told_93 : decode cX11_told 93 = .ok (.iload_n 1, 1) := by decide +kernel
theorem dX11_told_94 : decode cX11_told 94 = .ok (.bipush 6, 2) := by decide +kernel
theorem dX11_told_96 : decode cX11_told 96 = .ok (.if_icmp .ne 13, 3) := by decide +kernel
theorem dX11_told_99 : decode cX11_told 99 = .ok (.aload_n 0, 1) := by decide +kernel
theorem dX11_told_100 : decode cX11_told 100 = .ok (.getfield 17, 3) := by decide +kernel
theorem dX11_told_103 : decode cX11_told 103 = .ok (.bipush 6, 2) := by decide +kernel
theorem dX11_told_105 : decode cX11_told 105 = .ok (.iaload, 1) := by decide +kernel
theorem dX11_told_106 : decode cX11_told 106 = .ok (.goto 10, 3) := by decide +kernel
theorem dX11_told_109 : decode cX11_told 109 = .ok (.aload_n 0, 1) := by decide +kernel
theorem dX11_told_110 : decode cX11_told 110 = .ok (.getfield 17, 3) := by decide +kernel
theorem dX11_told_113 : decode cX11_told 113 = .ok (.bipush 7, 2) := by decide +kernel
theorem dX11_told_115 : decode cX11_told 115 = .ok (.iaload, 1) := by decide +kernel
theorem dX11_told_116 : decode cX11_told 116 = .ok (.ireturn, 1) := by decide +kernel
theorem dX11_told_117 : decode cX11_told 117 = .ok (.iload_n 1, 1) := by decide +kernel
theorem dX11_told_118 : decode cX11_told 118 = .ok (.bipush 10, 2) := by decide +kernel
theorem dX11_told_120 : decode cX11_told 120 = .ok (.bipush 12, 2) := by decide +kernel
theorem dX11_told_122 : decode cX11_told 122 = .ok (.invokestatic 172, 3) := by decide +kernel
theorem dX11_told_125 : decode cX11_told 125 = .ok (.ifCond .eq 16, 3) := by decide +kernel
theorem dX11_told_128 : decode cX11_told 128 = .ok (.aload_n 0, 1) := by decide +kernel
theorem dX11_told_129 : decode cX11_told 129 = .ok (.getfield 17, 3) := by decide +kernel
theorem dX11_told_132 : decode cX11_told 132 = .ok (.bipush 8, 2) := by decide +kernel
theorem dX11_told_134 : decode cX11_told 134 = .ok (.iload_n 1, 1) := by decide +kernel
theorem dX11_told_135 : decode cX11_told 135 = .ok (.iadd, 1) := by decide +kernel
theorem dX11_told_136 : decode cX11_told 136 = .ok (.bipush 10, 2) := by decide +kernel
theorem dX11_told_138 : decode cX11_told 138 = .ok (.isub, 1) := by decide +kernel
theorem dX11_told_139 : decode cX11_told 139 = .ok (.iaload, 1) := by decide +kernel
theorem dX11_told_140 : decode cX11_told 140 = .ok (.ireturn, 1) := by decide +kernel
theorem dX11_told_141 : decode cX11_told 141 = .ok (.iload_n 1, 1) := by decide +kernel
theorem dX11_told_142 : decode cX11_told 142 = .ok (.bipush 20, 2) := by decide +kernel
theorem dX11_told_144 : decode cX11_told 144 = .ok (.bipush 19, 2) := by decide +kernel
theorem dX11_told_146 : decode cX11_told 146 = .ok (.aload_n 0, 1) := by decide +kernel
theorem dX11_told_147 : decode cX11_told 147 = .ok (.getfield 17, 3) := by decide +kernel
theorem dX11_told_150 : decode cX11_told 150 = .ok (.bipush 7, 2) := by decide +kernel
theorem dX11_told_152 : decode cX11_told 152 = .ok (.iaload, 1) := by decide +kernel
theorem dX11_told_153 : decode cX11_told 153 = .ok (.iadd, 1) := by decide +kernel
theorem dX11_told_154 : decode cX11_told 154 = .ok (.invokestatic 172, 3) := by decide +kernel
theorem dX11_told_157 : decode cX11_told 157 = .ok (.ifCond .eq 16, 3) := by decide +kernel
theorem dX11_told_160 : decode cX11_told 160 = .ok (.aload_n 0, 1) := by decide +kernel
theorem dX11_told_161 : decode cX11_told 161 = .ok (.getfield 17, 3) := by decide +kernel
theorem dX11_told_164 : decode cX11_told 164 = .ok (.bipush 11, 2) := by decide +kernel
theorem dX11_told_166 : decode cX11_told 166 = .ok (.iload_n 1, 1) := by decide +kernel
theorem dX11_told_167 : decode cX11_told 167 = .ok (.iadd, 1) := by decide +kernel
theorem dX11_told_168 : decode cX11_told 168 = .ok (.bipush 20, 2) := by decide +kernel
theorem dX11_told_170 : decode cX11_told 170 = .ok (.isub, 1) := by decide +kernel
theorem dX11_told_171 : decode cX11_told 171 = .ok (.iaload, 1) := by decide +kernel
theorem dX11_told_172 : decode cX11_told 172 = .ok (.ireturn, 1) := by decide +kernel
theorem dX11_told_173 : decode cX11_told 173 = .ok (.aload_n 0, 1) := by decide +kernel
theorem dX11_told_174 : decode cX11_told 174 = .ok (.iload_n 1, 1) := by decide +kernel
theorem dX11_told_175 : decode cX11_told 175 = .ok (.bipush 30, 2) := by decide +kernel
theorem dX11_told_177 : decode cX11_told 177 = .ok (.isub, 1) := by decide +kernel
theorem dX11_told_178 : decode cX11_told 178 = .ok (.invokevirtual 225, 3) := by decide +kernel
theorem dX11_told_181 : decode cX11_told 181 = .ok (.ifCond .eq 13, 3) := by decide +kernel
theorem dX11_told_184 : decode cX11_told 184 = .ok (.aload_n 0, 1) := by decide +kernel
theorem dX11_told_185 : decode cX11_told 185 = .ok (.getfield 34, 3) := by decide +kernel
theorem dX11_told_188 : decode cX11_told 188 = .ok (.iload_n 1, 1) := by decide +kernel
theorem dX11_told_189 : decode cX11_told 189 = .ok (.bipush 30, 2) := by decide +kernel
theorem dX11_told_191 : decode cX11_told 191 = .ok (.isub, 1) := by decide +kernel
theorem dX11_told_192 : decode cX11_told 192 = .ok (.iaload, 1) := by decide +kernel
theorem dX11_told_193 : decode cX11_told 193 = .ok (.ireturn, 1) := by decide +kernel
theorem dX11_told_194 : decode cX11_told 194 = .ok (.aload_n 0, 1) := by decide +kernel
theorem dX11_told_195 : decode cX11_told 195 = .ok (.iload_n 1, 1) := by decide +kernel
theorem dX11_told_196 : decode cX11_told 196 = .ok (.bipush 40, 2) := by decide +kernel
theorem dX11_told_198 : decode cX11_told 198 = .ok (.isub, 1) := by decide +kernel
theorem dX11_told_199 : decode cX11_told 199 = .ok (.invokevirtual 225, 3) := by decide +kernel
theorem dX11_told_202 : decode cX11_told 202 = .ok (.ifCond .ne 5, 3) := by decide +kernel
theorem dX11_told_205 : decode cX11_told 205 = .ok (.iconst (-1), 1) := by decide +kernel
theorem dX11_told_206 : decode cX11_told 206 = .ok (.ireturn, 1) := by decide +kernel
theorem dX11_told_207 : decode cX11_told 207 = .ok (.iconst 0, 1) := by decide +kernel
theorem dX11_told_208 : decode cX11_told 208 = .ok (.istore_n 2, 1) := by decide +kernel
theorem dX11_told_209 : decode cX11_told 209 = .ok (.iconst 0, 1) := by decide +kernel
theorem dX11_told_210 : decode cX11_told 210 = .ok (.istore_n 3, 1) := by decide +kernel
theorem dX11_told_211 : decode cX11_told 211 = .ok (.iload_n 3, 1) := by decide +kernel
theorem dX11_told_212 : decode cX11_told 212 = .ok (.aload_n 0, 1) := by decide +kernel
theorem dX11_told_213 : decode cX11_told 213 = .ok (.getfield 34, 3) := by decide +kernel
theorem dX11_told_216 : decode cX11_told 216 = .ok (.iload_n 1, 1) := by decide +kernel
theorem dX11_told_217 : decode cX11_told 217 = .ok (.bipush 40, 2) := by decide +kernel
theorem dX11_told_219 : decode cX11_told 219 = .ok (.isub, 1) := by decide +kernel
theorem dX11_told_220 : decode cX11_told 220 = .ok (.iaload, 1) := by decide +kernel
theorem dX11_told_221 : decode cX11_told 221 = .ok (.if_icmp .ge 28, 3) := by decide +kernel
theorem dX11_told_224 : decode cX11_told 224 = .ok (.iload_n 2, 1) := by decide +kernel
theorem dX11_told_225 : decode cX11_told 225 = .ok (.aload_n 0, 1) := by decide +kernel
theorem dX11_told_226 : decode cX11_told 226 = .ok (.getfield 37, 3) := by decide +kernel
theorem dX11_told_229 : decode cX11_told 229 = .ok (.iconst 4, 1) := by decide +kernel
theorem dX11_told_230 : decode cX11_told 230 = .ok (.bipush 6, 2) := by decide +kernel
theorem dX11_told_232 : decode cX11_told 232 = .ok (.iload_n 1, 1) := by decide +kernel
theorem dX11_told_233 : decode cX11_told 233 = .ok (.bipush 40, 2) := by decide +kernel
theorem dX11_told_235 : decode cX11_told 235 = .ok (.isub, 1) := by decide +kernel
theorem dX11_told_236 : decode cX11_told 236 = .ok (.imul, 1) := by decide +kernel
theorem dX11_told_237 : decode cX11_told 237 = .ok (.iload_n 3, 1) := by decide +kernel
theorem dX11_told_238 : decode cX11_told 238 = .ok (.iadd, 1) := by decide +kernel
theorem dX11_told_239 : decode cX11_told 239 = .ok (.imul, 1) := by decide +kernel
theorem dX11_told_240 : decode cX11_told 240 = .ok (.iaload, 1) := by decide +kernel
theorem dX11_told_241 : decode cX11_told 241 = .ok (.iadd, 1) := by decide +kernel
theorem dX11_told_242 : decode cX11_told 242 = .ok (.istore_n 2, 1) := by decide +kernel
theorem dX11_told_243 : decode cX11_told 243 = .ok (.iinc 3 1, 3) := by decide +kernel
theorem dX11_told_246 : decode cX11_told 246 = .ok (.goto (-35), 3) := by decide +kernel
theorem dX11_told_249 : decode cX11_told 249 = .ok (.iload_n 2, 1) := by decide +kernel
theorem dX11_told_250 : decode cX11_told 250 = .ok (.ireturn, 1) := by decide +kernel
theorem dX11_vat_0 : decode cX11_vat 0 = .ok (.aload_n 0, 1) := by decide +kernel
theorem dX11_vat_1 : decode cX11_vat 1 = .ok (.iload_n 1, 1) := by decide +kernel
theorem dX11_vat_2 : decode cX11_vat 2 = .ok (.iload_n 3, 1) := by decide +kernel
theorem dX11_vat_3 : decode cX11_vat 3 = .ok (.iload 4, 2) := by decide +kernel
theorem dX11_vat_5 : decode cX11_vat 5 = .ok (.invokevirtual 310, 3) := by decide +kernel
theorem dX11_vat_8 : decode cX11_vat 8 = .ok (.ifCond .eq 16, 3) := by decide +kernel
theorem dX11_vat_11 : decode cX11_vat 11 = .ok (.aload_n 0, 1) := by decide +kernel
theorem dX11_vat_12 : decode cX11_vat 12 = .ok (.iload_n 2, 1) := by decide +kernel
theorem dX11_vat_13 : decode cX11_vat 13 = .ok (.invokevirtual 264, 3) := by decide +kernel
theorem dX11_vat_16 : decode cX11_vat 16 = .ok (.ifCond .eq 8, 3) := by decide +kernel
theorem dX11_vat_19 : decode cX11_vat 19 = .ok (.iload_n 1, 1) := by decide +kernel
theorem dX11_vat_20 : decode cX11_vat 20 = .ok (.iload_n 2, 1) := by decide +kernel
theorem dX11_vat_21 : decode cX11_vat 21 = .ok (.if_icmp .ne 6, 3) := by decide +kernel
theorem dX11_vat_24 : decode cX11_vat 24 = .ok (.bipush (-2), 2) := by decide +kernel
theorem dX11_vat_26 : decode cX11_vat 26 = .ok (.ireturn, 1) := by decide +kernel
theorem dX11_vat_27 : decode cX11_vat 27 = .ok (.aload_n 0, 1) := by decide +kernel
theorem dX11_vat_28 : decode cX11_vat 28 = .ok (.iload_n 1, 1) := by decide +kernel
theorem dX11_vat_29 : decode cX11_vat 29 = .ok (.iload_n 3, 1) := by decide +kernel
theorem dX11_vat_30 : decode cX11_vat 30 = .ok (.iload 4, 2) := by decide +kernel
theorem dX11_vat_32 : decode cX11_vat 32 = .ok (.invokevirtual 313, 3) := by decide +kernel
theorem dX11_vat_35 : decode cX11_vat 35 = .ok (.aload_n 0, 1) := by decide +kernel
theorem dX11_vat_36 : decode cX11_vat 36 = .ok (.aload_n 0, 1) := by decide +kernel
theorem dX11_vat_37 : decode cX11_vat 37 = .ok (.getfield 80, 3) := by decide +kernel
theorem dX11_vat_40 : decode cX11_vat 40 = .ok (.invokevirtual 326, 3) := by decide +kernel
theorem dX11_vat_43 : decode cX11_vat 43 = .ok (.aload_n 0, 1) := by decide +kernel
theorem dX11_vat_44 : decode cX11_vat 44 = .ok (.iload_n 2, 1) := by decide +kernel
theorem dX11_vat_45 : decode cX11_vat 45 = .ok (.iload_n 3, 1) := by decide +kernel
theorem dX11_vat_46 : decode cX11_vat 46 = .ok (.iload 4, 2) := by decide +kernel
theorem dX11_vat_48 : decode cX11_vat 48 = .ok (.invokevirtual 313, 3) := by decide +kernel
theorem dX11_vat_51 : decode cX11_vat 51 = .ok (.aload_n 0, 1) := by decide +kernel
theorem dX11_vat_52 : decode cX11_vat 52 = .ok (.aload_n 0, 1) := by decide +kernel
theorem dX11_vat_53 : decode cX11_vat 53 = .ok (.getfield 83, 3) := by decide +kernel
theorem dX11_vat_56 : decode cX11_vat 56 = .ok (.invokevirtual 326, 3) := by decide +kernel
theorem dX11_vat_59 : decode cX11_vat 59 = .ok (.iconst 0, 1) := by decide +kernel
theorem dX11_vat_60 : decode cX11_vat 60 = .ok (.istore 6, 2) := by decide +kernel
theorem dX11_vat_62 : decode cX11_vat 62 = .ok (.iconst 0, 1) := by decide +kernel
theorem dX11_vat_63 : decode cX11_vat 63 = .ok (.istore 7, 2) := by decide +kernel
theorem dX11_vat_65 : decode cX11_vat 65 = .ok (.iconst 0, 1) := by decide +kernel
theorem dX11_vat_66 : decode cX11_vat 66 = .ok (.istore 8, 2) := by decide +kernel
theorem dX11_vat_68 : decode cX11_vat 68 = .ok (.iload 8, 2) := by decide +kernel
theorem dX11_vat_70 : decode cX11_vat 70 = .ok (.aload_n 0, 1) := by decide +kernel
theorem dX11_vat_71 : decode cX11_vat 71 = .ok (.getfield 189, 3) := by decide +kernel
theorem dX11_vat_74 : decode cX11_vat 74 = .ok (.if_icmp .ge 69, 3) := by decide +kernel
theorem dX11_vat_77 : decode cX11_vat 77 = .ok (.iload 6, 2) := by decide +kernel
theorem dX11_vat_79 : decode cX11_vat 79 = .ok (.aload_n 0, 1) := by decide +kernel
theorem dX11_vat_80 : decode cX11_vat 80 = .ok (.getfield 80, 3) := by decide +kernel
theorem dX11_vat_83 : decode cX11_vat 83 = .ok (.iload 8, 2) := by decide +kernel
theorem dX11_vat_85 : decode cX11_vat 85 = .ok (.baload, 1) := by decide +kernel
theorem dX11_vat_86 : decode cX11_vat 86 = .ok (.ifCond .eq 17, 3) := by decide +kernel
theorem dX11_vat_89 : decode cX11_vat 89 = .ok (.aload_n 0, 1) := by decide +kernel
theorem dX11_vat_90 : decode cX11_vat 90 = .ok (.getfield 83, 3) := by decide +kernel
theorem dX11_vat_93 : decode cX11_vat 93 = .ok (.iload 8, 2) := by decide +kernel
theorem dX11_vat_95 : decode cX11_vat 95 = .ok (.baload, 1) := by decide +kernel
theorem dX11_vat_96 : decode cX11_vat 96 = .ok (.ifCond .eq 7, 3) := by decide +kernel
theorem dX11_vat_99 : decode cX11_vat 99 = .ok (.iconst 1, 1) := by decide +kernel
theorem dX11_vat_100 : decode cX11_vat 100 = .ok (.goto 4, 3) := by decide +kernel
theorem dX11_vat_103 : decode cX11_vat 103 = .ok (.iconst 0, 1) := by decide +kernel
theorem dX11_vat_104 : decode cX11_vat 104 = .ok (.iadd, 1) := by decide +kernel
theorem dX11_vat_105 : decode cX11_vat 105 = .ok (.istore 6, 2) := by decide +kernel
theorem dX11_vat_107 : decode cX11_vat 107 = .ok (.iload 7, 2) := by decide +kernel
theorem dX11_vat_109 : decode cX11_vat 109 = .ok (.aload_n 0, 1) := by decide +kernel
theorem dX11_vat_110 : decode cX11_vat 110 = .ok (.getfield 80, 3) := by decide +kernel
theorem dX11_vat_113 : decode cX11_vat 113 = .ok (.iload 8, 2) := by decide +kernel
theorem dX11_vat_115 : decode cX11_vat 115 = .ok (.baload, 1) := by decide +kernel
theorem dX11_vat_116 : decode cX11_vat 116 = .ok (.ifCond .ne 13, 3) := by decide +kernel
theorem dX11_vat_119 : decode cX11_vat 119 = .ok (.aload_n 0, 1) := by decide +kernel
theorem dX11_vat_120 : decode cX11_vat 120 = .ok (.getfield 83, 3) := by decide +kernel
theorem dX11_vat_123 : decode cX11_vat 123 = .ok (.iload 8, 2) := by decide +kernel
theorem dX11_vat_125 : decode cX11_vat 125 = .ok (.baload, 1) := by decide +kernel
theorem dX11_vat_126 : decode cX11_vat 126 = .ok (.ifCond .eq 7, 3) := by decide +kernel
theorem dX11_vat_129 : decode cX11_vat 129 = .ok (.iconst 1, 1) := by decide +kernel
theorem dX11_vat_130 : decode cX11_vat 130 = .ok (.goto 4, 3) := by decide +kernel
theorem dX11_vat_133 : decode cX11_vat 133 = .ok (.iconst 0, 1) := by decide +kernel
theorem dX11_vat_134 : decode cX11_vat 134 = .ok (.iadd, 1) := by decide +kernel
theorem dX11_vat_135 : decode cX11_vat 135 = .ok (.istore 7, 2) := by decide +kernel
theorem dX11_vat_137 : decode cX11_vat 137 = .ok (.iinc 8 1, 3) := by decide +kernel
theorem dX11_vat_140 : decode cX11_vat 140 = .ok (.goto (-72), 3) := by decide +kernel
theorem dX11_vat_143 : decode cX11_vat 143 = .ok (.iload 7, 2) := by decide +kernel
theorem dX11_vat_145 : decode cX11_vat 145 = .ok (.ifCond .ne 14, 3) := by decide +kernel
theorem dX11_vat_148 : decode cX11_vat 148 = .ok (.iload 5, 2) := by decide +kernel
theorem dX11_vat_150 : decode cX11_vat 150 = .ok (.ifCond .eq 7, 3) := by decide +kernel
theorem dX11_vat_153 : decode cX11_vat 153 = .ok (.iconst 1, 1) := by decide +kernel
theorem dX11_vat_154 : decode cX11_vat 154 = .ok (.goto 4, 3) := by decide +kernel
theorem dX11_vat_157 : decode cX11_vat 157 = .ok (.iconst 0, 1) := by decide +kernel
theorem dX11_vat_158 : decode cX11_vat 158 = .ok (.ireturn, 1) := by decide +kernel
theorem dX11_vat_159 : decode cX11_vat 159 = .ok (.iload 5, 2) := by decide +kernel
theorem dX11_vat_161 : decode cX11_vat 161 = .ok (.ifCond .eq 8, 3) := by decide +kernel
theorem dX11_vat_164 : decode cX11_vat 164 = .ok (.iload 7, 2) := by decide +kernel
theorem dX11_vat_166 : decode cX11_vat 166 = .ok (.goto 5, 3) := by decide +kernel
theorem dX11_vat_169 : decode cX11_vat 169 = .ok (.iload 6, 2) := by decide +kernel
theorem dX11_vat_171 : decode cX11_vat 171 = .ok (.iload 6, 2) := by decide +kernel
theorem dX11_vat_173 : decode cX11_vat 173 = .ok (.iload 7, 2) := by decide +kernel
theorem dX11_vat_175 : decode cX11_vat 175 = .ok (.invokestatic 330, 3) := by decide +kernel
theorem dX11_vat_178 : decode cX11_vat 178 = .ok (.idiv, 1) := by decide +kernel
theorem dX11_vat_179 : decode cX11_vat 179 = .ok (.ireturn, 1) := by decide +kernel
theorem dX11_vats_0 : decode cX11_vats 0 = .ok (.aload_n 0, 1) := by decide +kernel
theorem dX11_vats_1 : decode cX11_vats 1 = .ok (.iload_n 1, 1) := by decide +kernel
theorem dX11_vats_2 : decode cX11_vats 2 = .ok (.invokevirtual 225, 3) := by decide +kernel
theorem dX11_vats_5 : decode cX11_vats 5 = .ok (.ifCond .eq 10, 3) := by decide +kernel
theorem dX11_vats_8 : decode cX11_vats 8 = .ok (.iload_n 2, 1) := by decide +kernel
theorem dX11_vats_9 : decode cX11_vats 9 = .ok (.invokestatic 274, 3) := by decide +kernel
theorem dX11_vats_12 : decode cX11_vats 12 = .ok (.ifCond .ne 6, 3) := by decide +kernel
theorem dX11_vats_15 : decode cX11_vats 15 = .ok (.bipush (-2), 2) := by decide +kernel
theorem dX11_vats_17 : decode cX11_vats 17 = .ok (.ireturn, 1) := by decide +kernel
theorem dX11_vats_18 : decode cX11_vats 18 = .ok (.iconst 0, 1) := by decide +kernel
theorem dX11_vats_19 : decode cX11_vats 19 = .ok (.istore_n 3, 1) := by decide +kernel
theorem dX11_vats_20 : decode cX11_vats 20 = .ok (.iconst 0, 1) := by decide +kernel
theorem dX11_vats_21 : decode cX11_vats 21 = .ok (.istore 4, 2) := by decide +kernel
theorem dX11_vats_23 : decode cX11_vats 23 = .ok (.iload 4, 2) := by decide +kernel
theorem dX11_vats_25 : decode cX11_vats 25 = .ok (.aload_n 0, 1) := by decide +kernel
theorem dX11_vats_26 : decode cX11_vats 26 = .ok (.invokevirtual 222, 3) := by decide +kernel
theorem dX11_vats_29 : decode cX11_vats 29 = .ok (.if_icmp .ge 94, 3) := by decide +kernel
theorem dX11_vats_32 : decode cX11_vats 32 = .ok (.aload_n 0, 1) := by decide +kernel
theorem dX11_vats_33 : decode cX11_vats 33 = .ok (.getfield 86, 3) := by decide +kernel
theorem dX11_vats_36 : decode cX11_vats 36 = .ok (.iload 4, 2) := by decide +kernel
theorem dX11_vats_38 : decode cX11_vats 38 = .ok (.aload_n 0, 1) := by decide +kernel
theorem dX11_vats_39 : decode cX11_vats 39 = .ok (.iload 4, 2) := by decide +kernel
theorem dX11_vats_41 : decode cX11_vats 41 = .ok (.iload_n 1, 1) := by decide +kernel
theorem dX11_vats_42 : decode cX11_vats 42 = .ok (.iload_n 2, 1) := by decide +kernel
theorem dX11_vats_43 : decode cX11_vats 43 = .ok (.invokevirtual 333, 3) := by decide +kernel
theorem dX11_vats_46 : decode cX11_vats 46 = .ok (.iastore, 1) := by decide +kernel
theorem dX11_vats_47 : decode cX11_vats 47 = .ok (.iconst 0, 1) := by decide +kernel
theorem dX11_vats_48 : decode cX11_vats 48 = .ok (.istore 5, 2) := by decide +kernel
theorem dX11_vats_50 : decode cX11_vats 50 = .ok (.iconst 0, 1) := by decide +kernel
theorem dX11_vats_51 : decode cX11_vats 51 = .ok (.istore 6, 2) := by decide +kernel
theorem dX11_vats_53 : decode cX11_vats 53 = .ok (.iload 6, 2) := by decide +kernel
theorem dX11_vats_55 : decode cX11_vats 55 = .ok (.iload 4, 2) := by decide +kernel
theorem dX11_vats_57 : decode cX11_vats 57 = .ok (.if_icmp .ge 46, 3) := by decide +kernel
theorem dX11_vats_60 : decode cX11_vats 60 = .ok (.aload_n 0, 1) := by decide +kernel
theorem dX11_vats_61 : decode cX11_vats 61 = .ok (.getfield 86, 3) := by decide +kernel
theorem dX11_vats_64 : decode cX11_vats 64 = .ok (.iload 4, 2) := by decide +kernel
theorem dX11_vats_66 : decode cX11_vats 66 = .ok (.iaload, 1) := by decide +kernel
theorem dX11_vats_67 : decode cX11_vats 67 = .ok (.ifCond .lt 36, 3) := by decide +kernel
theorem dX11_vats_70 : decode cX11_vats 70 = .ok (.iload 5, 2) := by decide +kernel
theorem dX11_vats_72 : decode cX11_vats 72 = .ok (.aload_n 0, 1) := by decide +kernel
theorem dX11_vats_73 : decode cX11_vats 73 = .ok (.getfield 86, 3) := by decide +kernel
theorem dX11_vats_76 : decode cX11_vats 76 = .ok (.iload 6, 2) := by decide +kernel
theorem dX11_vats_78 : decode cX11_vats 78 = .ok (.iaload, 1) := by decide +kernel
theorem dX11_vats_79 : decode cX11_vats 79 = .ok (.aload_n 0, 1) := by decide +kernel
theorem dX11_vats_80 : decode cX11_vats 80 = .ok (.getfield 86, 3) := by decide +kernel
theorem dX11_vats_83 : decode cX11_vats 83 = .ok (.iload 4, 2) := by decide +kernel
theorem dX11_vats_85 : decode cX11_vats 85 = .ok (.iaload, 1) := by decide +kernel
theorem dX11_vats_86 : decode cX11_vats 86 = .ok (.if_icmp .ne 7, 3) := by decide +kernel
theorem dX11_vats_89 : decode cX11_vats 89 = .ok (.iconst 1, 1) := by decide +kernel
theorem dX11_vats_90 : decode cX11_vats 90 = .ok (.goto 4, 3) := by decide +kernel
theorem dX11_vats_93 : decode cX11_vats 93 = .ok (.iconst 0, 1) := by decide +kernel
theorem dX11_vats_94 : decode cX11_vats 94 = .ok (.iadd, 1) := by decide +kernel
theorem dX11_vats_95 : decode cX11_vats 95 = .ok (.istore 5, 2) := by decide +kernel
theorem dX11_vats_97 : decode cX11_vats 97 = .ok (.iinc 6 1, 3) := by decide +kernel
theorem dX11_vats_100 : decode cX11_vats 100 = .ok (.goto (-47), 3) := by decide +kernel
theorem dX11_vats_103 : decode cX11_vats 103 = .ok (.iload_n 3, 1) := by decide +kernel
theorem dX11_vats_104 : decode cX11_vats 104 = .ok (.iload 5, 2) := by decide +kernel
theorem dX11_vats_106 : decode cX11_vats 106 = .ok (.iconst 1, 1) := by decide +kernel
theorem dX11_vats_107 : decode cX11_vats 107 = .ok (.if_icmp .ne 7, 3) := by decide +kernel
theorem dX11_vats_110 : decode cX11_vats 110 = .ok (.iconst 1, 1) := by decide +kernel
theorem dX11_vats_111 : decode cX11_vats 111 = .ok (.goto 4, 3) := by decide +kernel
theorem dX11_vats_114 : decode cX11_vats 114 = .ok (.iconst 0, 1) := by decide +kernel
theorem dX11_vats_115 : decode cX11_vats 115 = .ok (.iadd, 1) := by decide +kernel
theorem dX11_vats_116 : decode cX11_vats 116 = .ok (.istore_n 3, 1) := by decide +kernel
theorem dX11_vats_117 : decode cX11_vats 117 = .ok (.iinc 4 1, 3) := by decide +kernel
theorem dX11_vats_120 : decode cX11_vats 120 = .ok (.goto (-97), 3) := by decide +kernel
theorem dX11_vats_123 : decode cX11_vats 123 = .ok (.iload_n 3, 1) := by decide +kernel
theorem dX11_vats_124 : decode cX11_vats 124 = .ok (.ireturn, 1) := by decide +kernel
theorem dX11_was_0 : decode cX11_was 0 = .ok (.aload_n 0, 1) := by decide +kernel
theorem dX11_was_1 : decode cX11_was 1 = .ok (.iload_n 1, 1) := by decide +kernel
theorem dX11_was_2 : decode cX11_was 2 = .ok (.iload_n 2, 1) := by decide +kernel
theorem dX11_was_3 : decode cX11_was 3 = .ok (.iload_n 3, 1) := by decide +kernel
theorem dX11_was_4 : decode cX11_was 4 = .ok (.invokevirtual 310, 3) := by decide +kernel
theorem dX11_was_7 : decode cX11_was 7 = .ok (.ifCond .eq 11, 3) := by decide +kernel
theorem dX11_was_10 : decode cX11_was 10 = .ok (.iload 4, 2) := by decide +kernel
theorem dX11_was_12 : decode cX11_was 12 = .ok (.invokestatic 254, 3) := by decide +kernel
theorem dX11_was_15 : decode cX11_was 15 = .ok (.ifCond .ne 6, 3) := by decide +kernel
theorem dX11_was_18 : decode cX11_was 18 = .ok (.bipush (-2), 2) := by decide +kernel
theorem dX11_was_20 : decode cX11_was 20 = .ok (.ireturn, 1) := by decide +kernel
theorem dX11_was_21 : decode cX11_was 21 = .ok (.aload_n 0, 1) := by decide +kernel
theorem dX11_was_22 : decode cX11_was 22 = .ok (.iload_n 1, 1) := by decide +kernel
theorem dX11_was_23 : decode cX11_was 23 = .ok (.iload_n 2, 1) := by decide +kernel
theorem dX11_was_24 : decode cX11_was 24 = .ok (.iload_n 3, 1) := by decide +kernel
theorem dX11_was_25 : decode cX11_was 25 = .ok (.invokevirtual 313, 3) := by decide +kernel
theorem dX11_was_28 : decode cX11_was 28 = .ok (.aload_n 0, 1) := by decide +kernel
theorem dX11_was_29 : decode cX11_was 29 = .ok (.iload 4, 2) := by decide +kernel
theorem dX11_was_31 : decode cX11_was 31 = .ok (.iload 5, 2) := by decide +kernel
theorem dX11_was_33 : decode cX11_was 33 = .ok (.invokevirtual 316, 3) := by decide +kernel
theorem dX11_was_36 : decode cX11_was 36 = .ok (.ireturn, 1) := by decide +kernel
theorem dX11_world_0 : decode cX11_world 0 = .ok (.aload_n 0, 1) := by decide +kernel
theorem dX11_world_1 : decode cX11_world 1 = .ok (.iload_n 1, 1) := by decide +kernel
theorem dX11_world_2 : decode cX11_world 2 = .ok (.invokevirtual 261, 3) := by decide +kernel
theorem dX11_world_5 : decode cX11_world 5 = .ok (.ifCond .eq 15, 3) := by decide +kernel
theorem dX11_world_8 : decode cX11_world 8 = .ok (.iload_n 2, 1) := by decide +kernel
theorem dX11_world_9 : decode cX11_world 9 = .ok (.ifCond .lt 11, 3) := by decide +kernel
theorem dX11_world_12 : decode cX11_world 12 = .ok (.aload_n 0, 1) := by decide +kernel
theorem dX11_world_13 : decode cX11_world 13 = .ok (.iload_n 3, 1) := by decide +kernel
theorem dX11_world_14 : decode cX11_world 14 = .ok (.invokevirtual 225, 3) := by decide +kernel
theorem dX11_world_17 : decode cX11_world 17 = .ok (.ifCond .ne 6, 3) := by decide +kernel
theorem dX11_world_20 : decode cX11_world 20 = .ok (.bipush (-2), 2) := by decide +kernel
theorem dX11_world_22 : decode cX11_world 22 = .ok (.ireturn, 1) := by decide +kernel
theorem dX11_world_23 : decode cX11_world 23 = .ok (.aload_n 0, 1) := by decide +kernel
theorem dX11_world_24 : decode cX11_world 24 = .ok (.iload_n 2, 1) := by decide +kernel
theorem dX11_world_25 : decode cX11_world 25 = .ok (.i2l, 1) := by decide +kernel
theorem dX11_world_26 : decode cX11_world 26 = .ok (.putfield 361, 3) := by decide +kernel
theorem dX11_world_29 : decode cX11_world 29 = .ok (.aload_n 0, 1) := by decide +kernel
theorem dX11_world_30 : decode cX11_world 30 = .ok (.getfield 55, 3) := by decide +kernel
theorem dX11_world_33 : decode cX11_world 33 = .ok (.iconst 3, 1) := by decide +kernel
theorem dX11_world_34 : decode cX11_world 34 = .ok (.iload_n 1, 1) := by decide +kernel
theorem dX11_world_35 : decode cX11_world 35 = .ok (.iastore, 1) := by decide +kernel
theorem dX11_world_36 : decode cX11_world 36 = .ok (.iconst 0, 1) := by decide +kernel
theorem dX11_world_37 : decode cX11_world 37 = .ok (.istore 4, 2) := by decide +kernel
theorem dX11_world_39 : decode cX11_world 39 = .ok (.iconst 0, 1) := by decide +kernel
theorem dX11_world_40 : decode cX11_world 40 = .ok (.istore 5, 2) := by decide +kernel
theorem dX11_world_42 : decode cX11_world 42 = .ok (.iload 5, 2) := by decide +kernel
theorem dX11_world_44 : decode cX11_world 44 = .ok (.aload_n 0, 1) := by decide +kernel
theorem dX11_world_45 : decode cX11_world 45 = .ok (.invokevirtual 222, 3) := by decide +kernel
theorem dX11_world_48 : decode cX11_world 48 = .ok (.if_icmp .ge 128, 3) := by decide +kernel
theorem dX11_world_51 : decode cX11_world 51 = .ok (.aload_n 0, 1) := by decide +kernel
theorem dX11_world_52 : decode cX11_world 52 = .ok (.getfield 17, 3) := by decide +kernel
theorem dX11_world_55 : decode cX11_world 55 = .ok (.iconst 4, 1) := by decide +kernel
theorem dX11_world_56 : decode cX11_world 56 = .ok (.iaload, 1) := by decide +kernel
theorem dX11_world_57 : decode cX11_world 57 = .ok (.ifCond .le 119, 3) := by decide +kernel
theorem dX11_world_60 : decode cX11_world 60 = .ok (.aload_n 0, 1) := by decide +kernel
theorem dX11_world_61 : decode cX11_world 61 = .ok (.invokevirtual 376, 3) := by decide +kernel
theorem dX11_world_64 : decode cX11_world 64 = .ok (.istore 6, 2) := by decide +kernel
theorem dX11_world_66 : decode cX11_world 66 = .ok (.aload_n 0, 1) := by decide +kernel
theorem dX11_world_67 : decode cX11_world 67 = .ok (.aload_n 0, 1) := by decide +kernel
theorem dX11_world_68 : decode cX11_world 68 = .ok (.iconst 1, 1) := by decide +kernel
theorem dX11_world_69 : decode cX11_world 69 = .ok (.aload_n 0, 1) := by decide +kernel
theorem dX11_world_70 : decode cX11_world 70 = .ok (.getfield 17, 3) := by decide +kernel
theorem dX11_world_73 : decode cX11_world 73 = .ok (.bipush 7, 2) := by decide +kernel
theorem dX11_world_75 : decode cX11_world 75 = .ok (.iaload, 1) := by decide +kernel
theorem dX11_world_76 : decode cX11_world 76 = .ok (.iadd, 1) := by decide +kernel
theorem dX11_world_77 : decode cX11_world 77 = .ok (.invokevirtual 370, 3) := by decide +kernel
theorem dX11_world_80 : decode cX11_world 80 = .ok (.invokevirtual 297, 3) := by decide +kernel
theorem dX11_world_83 : decode cX11_world 83 = .ok (.istore 7, 2) := by decide +kernel
theorem dX11_world_85 : decode cX11_world 85 = .ok (.iconst 0, 1) := by decide +kernel
theorem dX11_world_86 : decode cX11_world 86 = .ok (.istore 8, 2) := by decide +kernel
theorem dX11_world_88 : decode cX11_world 88 = .ok (.iload 8, 2) := by decide +kernel
theorem dX11_world_90 : decode cX11_world 90 = .ok (.iconst 2, 1) := by decide +kernel
theorem dX11_world_91 : decode cX11_world 91 = .ok (.if_icmp .ge 79, 3) := by decide +kernel
theorem dX11_world_94 : decode cX11_world 94 = .ok (.aload_n 0, 1) := by decide +kernel
theorem dX11_world_95 : decode cX11_world 95 = .ok (.iload_n 3, 1) := by decide +kernel
theorem dX11_world_96 : decode cX11_world 96 = .ok (.iload 5, 2) := by decide +kernel
theorem dX11_world_98 : decode cX11_world 98 = .ok (.aload_n 0, 1) := by decide +kernel
theorem dX11_world_99 : decode cX11_world 99 = .ok (.getfield 17, 3) := by decide +kernel
theorem dX11_world_102 : decode cX11_world 102 = .ok (.iconst 0, 1) := by decide +kernel
theorem dX11_world_103 : decode cX11_world 103 = .ok (.iaload, 1) := by decide +kernel
theorem dX11_world_104 : decode cX11_world 104 = .ok (.irem, 1) := by decide +kernel
theorem dX11_world_105 : decode cX11_world 105 = .ok (.iload 7, 2) := by decide +kernel
theorem dX11_world_107 : decode cX11_world 107 = .ok (.iload 8, 2) := by decide +kernel
theorem dX11_world_109 : decode cX11_world 109 = .ok (.invokevirtual 244, 3) := by decide +kernel
theorem dX11_world_112 : decode cX11_world 112 = .ok (.istore 9, 2) := by decide +kernel
theorem dX11_world_114 : decode cX11_world 114 = .ok (.iload 4, 2) := by decide +kernel
theorem dX11_world_116 : decode cX11_world 116 = .ok (.aload_n 0, 1) := by decide +kernel
theorem dX11_world_117 : decode cX11_world 117 = .ok (.iload_n 1, 1) := by decide +kernel
theorem dX11_world_118 : decode cX11_world 118 = .ok (.iload 5, 2) := by decide +kernel
theorem dX11_world_120 : decode cX11_world 120 = .ok (.iload 8, 2) := by decide +kernel
theorem dX11_world_122 : decode cX11_world 122 = .ok (.aload_n 0, 1) := by decide +kernel
theorem dX11_world_123 : decode cX11_world 123 = .ok (.iload 6, 2) := by decide +kernel
theorem dX11_world_125 : decode cX11_world 125 = .ok (.iload 9, 2) := by decide +kernel
theorem dX11_world_127 : decode cX11_world 127 = .ok (.iconst 0, 1) := by decide +kernel
theorem dX11_world_128 : decode cX11_world 128 = .ok (.invokevirtual 257, 3) := by decide +kernel
theorem dX11_world_131 : decode cX11_world 131 = .ok (.aload_n 0, 1) := by decide +kernel
theorem dX11_world_132 : decode cX11_world 132 = .ok (.iload 6, 2) := by decide +kernel
theorem dX11_world_134 : decode cX11_world 134 = .ok (.iload 9, 2) := by decide +kernel
theorem dX11_world_136 : decode cX11_world 136 = .ok (.iconst 1, 1) := by decide +kernel
theorem dX11_world_137 : decode cX11_world 137 = .ok (.invokevirtual 257, 3) := by decide +kernel
theorem dX11_world_140 : decode cX11_world 140 = .ok (.aload_n 0, 1) := by decide +kernel
theorem dX11_world_141 : decode cX11_world 141 = .ok (.iload 6, 2) := by decide +kernel
theorem dX11_world_143 : decode cX11_world 143 = .ok (.iload 9, 2) := by decide +kernel
theorem dX11_world_145 : decode cX11_world 145 = .ok (.iconst 2, 1) := by decide +kernel
theorem dX11_world_146 : decode cX11_world 146 = .ok (.invokevirtual 257, 3) := by decide +kernel
theorem dX11_world_149 : decode cX11_world 149 = .ok (.iconst 0, 1) := by decide +kernel
theorem dX11_world_150 : decode cX11_world 150 = .ok (.invokevirtual 270, 3) := by decide +kernel
theorem dX11_world_153 : decode cX11_world 153 = .ok (.ifCond .le 7, 3) := by decide +kernel
theorem dX11_world_156 : decode cX11_world 156 = .ok (.iconst 1, 1) := by decide +kernel
theorem dX11_world_157 : decode cX11_world 157 = .ok (.goto 4, 3) := by decide +kernel
theorem dX11_world_160 : decode cX11_world 160 = .ok (.iconst 0, 1) := by decide +kernel
theorem dX11_world_161 : decode cX11_world 161 = .ok (.iadd, 1) := by decide +kernel
theorem dX11_world_162 : decode cX11_world 162 = .ok (.istore 4, 2) := by decide +kernel
theorem dX11_world_164 : decode cX11_world 164 = .ok (.iinc 8 1, 3) := by decide +kernel
theorem dX11_world_167 : decode cX11_world 167 = .ok (.goto (-79), 3) := by decide +kernel
theorem dX11_world_170 : decode cX11_world 170 = .ok (.iinc 5 1, 3) := by decide +kernel
theorem dX11_world_173 : decode cX11_world 173 = .ok (.goto (-131), 3) := by decide +kernel
theorem dX11_world_176 : decode cX11_world 176 = .ok (.iload 4, 2) := by decide +kernel
theorem dX11_world_178 : decode cX11_world 178 = .ok (.ireturn, 1) := by decide +kernel
