theorem dX2_says_0 : decode cX2_says 0 = .ok (.aload_n 0, 1) := by decide +kernel
theorem dX2_says_1 : decode cX2_says 1 = .ok (.getfield 40, 3) := by decide +kernel
theorem dX2_says_4 : decode cX2_says 4 = .ok (.iconst 1, 1) := by decide +kernel
theorem dX2_says_5 : decode cX2_says 5 = .ok (.if_icmp .ne 19, 3) := by decide +kernel
theorem dX2_says_8 : decode cX2_says 8 = .ok (.aload_n 0, 1) := by decide +kernel
theorem dX2_says_9 : decode cX2_says 9 = .ok (.getfield 31, 3) := by decide +kernel
theorem dX2_says_12 : decode cX2_says 12 = .ok (.aload_n 0, 1) := by decide +kernel
theorem dX2_says_13 : decode cX2_says 13 = .ok (.getfield 43, 3) := by decide +kernel
theorem dX2_says_16 : decode cX2_says 16 = .ok (.isub, 1) := by decide +kernel
theorem dX2_says_17 : decode cX2_says 17 = .ok (.aload_n 1, 1) := by decide +kernel
theorem dX2_says_18 : decode cX2_says 18 = .ok (.invokevirtual 74, 3) := by decide +kernel
theorem dX2_says_21 : decode cX2_says 21 = .ok (.if_icmp .eq 5, 3) := by decide +kernel
theorem dX2_says_24 : decode cX2_says 24 = .ok (.iconst 0, 1) := by decide +kernel
theorem dX2_says_25 : decode cX2_says 25 = .ok (.ireturn, 1) := by decide +kernel
theorem dX2_says_26 : decode cX2_says 26 = .ok (.iconst 0, 1) := by decide +kernel
theorem dX2_says_27 : decode cX2_says 27 = .ok (.istore_n 2, 1) := by decide +kernel
theorem dX2_says_28 : decode cX2_says 28 = .ok (.iload_n 2, 1) := by decide +kernel
theorem dX2_says_29 : decode cX2_says 29 = .ok (.aload_n 1, 1) := by decide +kernel
theorem dX2_says_30 : decode cX2_says 30 = .ok (.invokevirtual 74, 3) := by decide +kernel
theorem dX2_says_33 : decode cX2_says 33 = .ok (.if_icmp .ge 33, 3) := by decide +kernel
theorem dX2_says_36 : decode cX2_says 36 = .ok (.aload_n 0, 1) := by decide +kernel
theorem dX2_says_37 : decode cX2_says 37 = .ok (.getfield 18, 3) := by decide +kernel
theorem dX2_says_40 : decode cX2_says 40 = .ok (.getfield 46, 3) := by decide +kernel
theorem dX2_says_43 : decode cX2_says 43 = .ok (.aload_n 0, 1) := by decide +kernel
theorem dX2_says_44 : decode cX2_says 44 = .ok (.getfield 43, 3) := by decide +kernel
theorem dX2_says_47 : decode cX2_says 47 = .ok (.iload_n 2, 1) := by decide +kernel
theorem dX2_says_48 : decode cX2_says 48 = .ok (.iadd, 1) := by decide +kernel
theorem dX2_says_49 : decode cX2_says 49 = .ok (.baload, 1) := by decide +kernel
theorem dX2_says_50 : decode cX2_says 50 = .ok (.aload_n 1, 1) := by decide +kernel
theorem dX2_says_51 : decode cX2_says 51 = .ok (.iload_n 2, 1) := by decide +kernel
theorem dX2_says_52 : decode cX2_says 52 = .ok (.invokevirtual 79, 3) := by decide +kernel
theorem dX2_says_55 : decode cX2_says 55 = .ok (.if_icmp .eq 5, 3) := by decide +kernel
theorem dX2_says_58 : decode cX2_says 58 = .ok (.iconst 0, 1) := by decide +kernel
theorem dX2_says_59 : decode cX2_says 59 = .ok (.ireturn, 1) := by decide +kernel
theorem dX2_says_60 : decode cX2_says 60 = .ok (.iinc 2 1, 3) := by decide +kernel
theorem dX2_says_63 : decode cX2_says 63 = .ok (.goto (-35), 3) := by decide +kernel
theorem dX2_says_66 : decode cX2_says 66 = .ok (.iconst 1, 1) := by decide +kernel
theorem dX2_says_67 : decode cX2_says 67 = .ok (.ireturn, 1) := by decide +kernel
theorem dX2_readEye_0 : decode cX2_readEye 0 = .ok (.aload_n 0, 1) := by decide +kernel
theorem dX2_readEye_1 : decode cX2_readEye 1 = .ok (.getfield 22, 3) := by decide +kernel
theorem dX2_readEye_4 : decode cX2_readEye 4 = .ok (.getfield 185, 3) := by decide +kernel
theorem dX2_readEye_7 : decode cX2_readEye 7 = .ok (.iconst 2, 1) := by decide +kernel
theorem dX2_readEye_8 : decode cX2_readEye 8 = .ok (.if_icmp .lt 9, 3) := by decide +kernel
theorem dX2_readEye_11 : decode cX2_readEye 11 = .ok (.aload_n 0, 1) := by decide +kernel
theorem dX2_readEye_12 : decode cX2_readEye 12 = .ok (.iconst 4, 1) := by decide +kernel
theorem dX2_readEye_13 : decode cX2_readEye 13 = .ok (.invokevirtual 138, 3) := by decide +kernel
theorem dX2_readEye_16 : decode cX2_readEye 16 = .ok (.ireturn, 1) := by decide +kernel
theorem dX2_readEye_17 : decode cX2_readEye 17 = .ok (.aload_n 0, 1) := by decide +kernel
theorem dX2_readEye_18 : decode cX2_readEye 18 = .ok (.aload_n 0, 1) := by decide +kernel
theorem dX2_readEye_19 : decode cX2_readEye 19 = .ok (.getfield 22, 3) := by decide +kernel
theorem dX2_readEye_22 : decode cX2_readEye 22 = .ok (.getfield 188, 3) := by decide +kernel
theorem dX2_readEye_25 : decode cX2_readEye 25 = .ok (.aload_n 0, 1) := by decide +kernel
theorem dX2_readEye_26 : decode cX2_readEye 26 = .ok (.getfield 22, 3) := by decide +kernel
theorem dX2_readEye_29 : decode cX2_readEye 29 = .ok (.getfield 185, 3) := by decide +kernel
theorem dX2_readEye_32 : decode cX2_readEye 32 = .ok (.invokevirtual 172, 3) := by decide +kernel
theorem dX2_readEye_35 : decode cX2_readEye 35 = .ok (.ifCond .ne 5, 3) := by decide +kernel
theorem dX2_readEye_38 : decode cX2_readEye 38 = .ok (.iconst 0, 1) := by decide +kernel
theorem dX2_readEye_39 : decode cX2_readEye 39 = .ok (.ireturn, 1) := by decide +kernel
theorem dX2_readEye_40 : decode cX2_readEye 40 = .ok (.iconst 0, 1) := by decide +kernel
theorem dX2_readEye_41 : decode cX2_readEye 41 = .ok (.istore_n 1, 1) := by decide +kernel
theorem dX2_readEye_42 : decode cX2_readEye 42 = .ok (.iload_n 1, 1) := by decide +kernel
theorem dX2_readEye_43 : decode cX2_readEye 43 = .ok (.iconst 3, 1) := by decide +kernel
theorem dX2_readEye_44 : decode cX2_readEye 44 = .ok (.if_icmp .ge 60, 3) := by decide +kernel
theorem dX2_readEye_47 : decode cX2_readEye 47 = .ok (.aload_n 0, 1) := by decide +kernel
theorem dX2_readEye_48 : decode cX2_readEye 48 = .ok (.invokevirtual 37, 3) := by decide +kernel
theorem dX2_readEye_51 : decode cX2_readEye 51 = .ok (.aload_n 0, 1) := by decide +kernel
theorem dX2_readEye_52 : decode cX2_readEye 52 = .ok (.ldc 191, 2) := by decide +kernel
theorem dX2_readEye_54 : decode cX2_readEye 54 = .ok (.invokevirtual 85, 3) := by decide +kernel
theorem dX2_readEye_57 : decode cX2_readEye 57 = .ok (.ifCond .ne 9, 3) := by decide +kernel
theorem dX2_readEye_60 : decode cX2_readEye 60 = .ok (.aload_n 0, 1) := by decide +kernel
theorem dX2_readEye_61 : decode cX2_readEye 61 = .ok (.iconst 1, 1) := by decide +kernel
theorem dX2_readEye_62 : decode cX2_readEye 62 = .ok (.invokevirtual 138, 3) := by decide +kernel
theorem dX2_readEye_65 : decode cX2_readEye 65 = .ok (.ireturn, 1) := by decide +kernel
theorem dX2_readEye_66 : decode cX2_readEye 66 = .ok (.aload_n 0, 1) := by decide +kernel
theorem dX2_readEye_67 : decode cX2_readEye 67 = .ok (.aload_n 0, 1) := by decide +kernel
theorem dX2_readEye_68 : decode cX2_readEye 68 = .ok (.getfield 22, 3) := by decide +kernel
theorem dX2_readEye_71 : decode cX2_readEye 71 = .ok (.getfield 193, 3) := by decide +kernel
theorem dX2_readEye_74 : decode cX2_readEye 74 = .ok (.aload_n 0, 1) := by decide +kernel
theorem dX2_readEye_75 : decode cX2_readEye 75 = .ok (.getfield 22, 3) := by decide +kernel
theorem dX2_readEye_78 : decode cX2_readEye 78 = .ok (.getfield 185, 3) := by decide +kernel
theorem dX2_readEye_81 : decode cX2_readEye 81 = .ok (.bipush 9, 2) := by decide +kernel
theorem dX2_readEye_83 : decode cX2_readEye 83 = .ok (.imul, 1) := by decide +kernel
theorem dX2_readEye_84 : decode cX2_readEye 84 = .ok (.iload_n 1, 1) := by decide +kernel
theorem dX2_readEye_85 : decode cX2_readEye 85 = .ok (.iconst 3, 1) := by decide +kernel
theorem dX2_readEye_86 : decode cX2_readEye 86 = .ok (.imul, 1) := by decide +kernel
theorem dX2_readEye_87 : decode cX2_readEye 87 = .ok (.iadd, 1) := by decide +kernel
theorem dX2_readEye_88 : decode cX2_readEye 88 = .ok (.bipush 9, 2) := by decide +kernel
theorem dX2_readEye_90 : decode cX2_readEye 90 = .ok (.invokevirtual 119, 3) := by decide +kernel
theorem dX2_readEye_93 : decode cX2_readEye 93 = .ok (.ifCond .ne 5, 3) := by decide +kernel
theorem dX2_readEye_96 : decode cX2_readEye 96 = .ok (.iconst 0, 1) := by decide +kernel
theorem dX2_readEye_97 : decode cX2_readEye 97 = .ok (.ireturn, 1) := by decide +kernel
theorem dX2_readEye_98 : decode cX2_readEye 98 = .ok (.iinc 1 1, 3) := by decide +kernel
theorem dX2_readEye_101 : decode cX2_readEye 101 = .ok (.goto (-59), 3) := by decide +kernel
theorem dX2_readEye_104 : decode cX2_readEye 104 = .ok (.aload_n 0, 1) := by decide +kernel
theorem dX2_readEye_105 : decode cX2_readEye 105 = .ok (.getfield 22, 3) := by decide +kernel
theorem dX2_readEye_108 : decode cX2_readEye 108 = .ok (.dup, 1) := by decide +kernel
theorem dX2_readEye_109 : decode cX2_readEye 109 = .ok (.getfield 185, 3) := by decide +kernel
theorem dX2_readEye_112 : decode cX2_readEye 112 = .ok (.iconst 1, 1) := by decide +kernel
theorem dX2_readEye_113 : decode cX2_readEye 113 = .ok (.iadd, 1) := by decide +kernel
theorem dX2_readEye_114 : decode cX2_readEye 114 = .ok (.putfield 185, 3) := by decide +kernel
theorem dX2_readEye_117 : decode cX2_readEye 117 = .ok (.iconst 1, 1) := by decide +kernel
theorem dX2_readEye_118 : decode cX2_readEye 118 = .ok (.ireturn, 1) := by decide +kernel
theorem dX2_readTale_0 : decode cX2_readTale 0 = .ok (.aload_n 0, 1) := by decide +kernel
theorem dX2_readTale_1 : decode cX2_readTale 1 = .ok (.getfield 22, 3) := by decide +kernel
theorem dX2_readTale_4 : decode cX2_readTale 4 = .ok (.getfield 196, 3) := by decide +kernel
theorem dX2_readTale_7 : decode cX2_readTale 7 = .ok (.iconst 4, 1) := by decide +kernel
theorem dX2_readTale_8 : decode cX2_readTale 8 = .ok (.if_icmp .lt 9, 3) := by decide +kernel
theorem dX2_readTale_11 : decode cX2_readTale 11 = .ok (.aload_n 0, 1) := by decide +kernel
theorem dX2_readTale_12 : decode cX2_readTale 12 = .ok (.iconst 4, 1) := by decide +kernel
theorem dX2_readTale_13 : decode cX2_readTale 13 = .ok (.invokevirtual 138, 3) := by decide +kernel
theorem dX2_readTale_16 : decode cX2_readTale 16 = .ok (.ireturn, 1) := by decide +kernel
theorem dX2_readTale_17 : decode cX2_readTale 17 = .ok (.aload_n 0, 1) := by decide +kernel
theorem dX2_readTale_18 : decode cX2_readTale 18 = .ok (.aload_n 0, 1) := by decide +kernel
theorem dX2_readTale_19 : decode cX2_readTale 19 = .ok (.getfield 22, 3) := by decide +kernel
theorem dX2_readTale_22 : decode cX2_readTale 22 = .ok (.getfield 199, 3) := by decide +kernel
theorem dX2_readTale_25 : decode cX2_readTale 25 = .ok (.aload_n 0, 1) := by decide +kernel
theorem dX2_readTale_26 : decode cX2_readTale 26 = .ok (.getfield 22, 3) := by decide +kernel
theorem dX2_readTale_29 : decode cX2_readTale 29 = .ok (.getfield 196, 3) := by decide +kernel
theorem dX2_readTale_32 : decode cX2_readTale 32 = .ok (.invokevirtual 172, 3) := by decide +kernel
theorem dX2_readTale_35 : decode cX2_readTale 35 = .ok (.ifCond .ne 5, 3) := by decide +kernel
theorem dX2_readTale_38 : decode cX2_readTale 38 = .ok (.iconst 0, 1) := by decide +kernel
theorem dX2_readTale_39 : decode cX2_readTale 39 = .ok (.ireturn, 1) := by decide +kernel
theorem dX2_readTale_40 : decode cX2_readTale 40 = .ok (.iconst 0, 1) := by decide +kernel
theorem dX2_readTale_41 : decode cX2_readTale 41 = .ok (.istore_n 1, 1) := by decide +kernel
theorem dX2_readTale_42 : decode cX2_readTale 42 = .ok (.aload_n 0, 1) := by decide +kernel
theorem dX2_readTale_43 : decode cX2_readTale 43 = .ok (.invokevirtual 37, 3) := by decide +kernel
theorem dX2_readTale_46 : decode cX2_readTale 46 = .ok (.aload_n 0, 1) := by decide +kernel
theorem dX2_readTale_47 : decode cX2_readTale 47 = .ok (.ldc 202, 2) := by decide +kernel
theorem dX2_readTale_49 : decode cX2_readTale 49 = .ok (.invokevirtual 85, 3) := by decide +kernel
theorem dX2_readTale_52 : decode cX2_readTale 52 = .ok (.ifCond .eq 29, 3) := by decide +kernel
theorem dX2_readTale_55 : decode cX2_readTale 55 = .ok (.iload_n 1, 1) := by decide +kernel
theorem dX2_readTale_56 : decode cX2_readTale 56 = .ok (.bipush 6, 2) := by decide +kernel
theorem dX2_readTale_58 : decode cX2_readTale 58 = .ok (.if_icmp .ge 23, 3) := by decide +kernel
theorem dX2_readTale_61 : decode cX2_readTale 61 = .ok (.aload_n 0, 1) := by decide +kernel
theorem dX2_readTale_62 : decode cX2_readTale 62 = .ok (.iload_n 1, 1) := by decide +kernel
theorem dX2_readTale_63 : decode cX2_readTale 63 = .ok (.invokevirtual 204, 3) := by decide +kernel
theorem dX2_readTale_66 : decode cX2_readTale 66 = .ok (.ifCond .ne 5, 3) := by decide +kernel
theorem dX2_readTale_69 : decode cX2_readTale 69 = .ok (.iconst 0, 1) := by decide +kernel
theorem dX2_readTale_70 : decode cX2_readTale 70 = .ok (.ireturn, 1) := by decide +kernel
theorem dX2_readTale_71 : decode cX2_readTale 71 = .ok (.iinc 1 1, 3) := by decide +kernel
theorem dX2_readTale_74 : decode cX2_readTale 74 = .ok (.aload_n 0, 1) := by decide +kernel
theorem dX2_readTale_75 : decode cX2_readTale 75 = .ok (.invokevirtual 37, 3) := by decide +kernel
theorem dX2_readTale_78 : decode cX2_readTale 78 = .ok (.goto (-32), 3) := by decide +kernel
theorem dX2_readTale_81 : decode cX2_readTale 81 = .ok (.aload_n 0, 1) := by decide +kernel
theorem dX2_readTale_82 : decode cX2_readTale 82 = .ok (.ldc 202, 2) := by decide +kernel
theorem dX2_readTale_84 : decode cX2_readTale 84 = .ok (.invokevirtual 85, 3) := by decide +kernel
theorem dX2_readTale_87 : decode cX2_readTale 87 = .ok (.ifCond .eq 9, 3) := by decide +kernel
theorem dX2_readTale_90 : decode cX2_readTale 90 = .ok (.aload_n 0, 1) := by decide +kernel
theorem dX2_readTale_91 : decode cX2_readTale 91 = .ok (.iconst 4, 1) := by decide +kernel
theorem dX2_readTale_92 : decode cX2_readTale 92 = .ok (.invokevirtual 138, 3) := by decide +kernel
theorem dX2_readTale_95 : decode cX2_readTale 95 = .ok (.ireturn, 1) := by decide +kernel
theorem dX2_readTale_96 : decode cX2_readTale 96 = .ok (.iload_n 1, 1) := by decide +kernel
theorem dX2_readTale_97 : decode cX2_readTale 97 = .ok (.ifCond .eq 11, 3) := by decide +kernel
theorem dX2_readTale_100 : decode cX2_readTale 100 = .ok (.aload_n 0, 1) := by decide +kernel
theorem dX2_readTale_101 : decode cX2_readTale 101 = .ok (.getfield 40, 3) := by decide +kernel
theorem dX2_readTale_104 : decode cX2_readTale 104 = .ok (.iconst 3, 1) := by decide +kernel
theorem dX2_readTale_105 : decode cX2_readTale 105 = .ok (.if_icmp .eq 9, 3) := by decide +kernel
theorem dX2_readTale_108 : decode cX2_readTale 108 = .ok (.aload_n 0, 1) := by decide +kernel
theorem dX2_readTale_109 : decode cX2_readTale 109 = .ok (.iconst 1, 1) := by decide +kernel
theorem dX2_readTale_110 : decode cX2_readTale 110 = .ok (.invokevirtual 138, 3) := by decide +kernel
theorem dX2_readTale_113 : decode cX2_readTale 113 = .ok (.ireturn, 1) := by decide +kernel
theorem dX2_readTale_114 : decode cX2_readTale 114 = .ok (.aload_n 0, 1) := by decide +kernel
theorem dX2_readTale_115 : decode cX2_readTale 115 = .ok (.getfield 22, 3) := by decide +kernel
theorem dX2_readTale_118 : decode cX2_readTale 118 = .ok (.getfield 207, 3) := by decide +kernel
theorem dX2_readTale_121 : decode cX2_readTale 121 = .ok (.aload_n 0, 1) := by decide +kernel
theorem dX2_readTale_122 : decode cX2_readTale 122 = .ok (.getfield 22, 3) := by decide +kernel
theorem dX2_readTale_125 : decode cX2_readTale 125 = .ok (.getfield 196, 3) := by decide +kernel
theorem dX2_readTale_128 : decode cX2_readTale 128 = .ok (.iload_n 1, 1) := by decide +kernel
theorem dX2_readTale_129 : decode cX2_readTale 129 = .ok (.iastore, 1) := by decide +kernel
theorem dX2_readTale_130 : decode cX2_readTale 130 = .ok (.aload_n 0, 1) := by decide +kernel
theorem dX2_readTale_131 : decode cX2_readTale 131 = .ok (.getfield 22, 3) := by decide +kernel
theorem dX2_readTale_134 : decode cX2_readTale 134 = .ok (.dup, 1) := by decide +kernel
theorem dX2_readTale_135 : decode cX2_readTale 135 = .ok (.getfield 196, 3) := by decide +kernel
theorem dX2_readTale_138 : decode cX2_readTale 138 = .ok (.iconst 1, 1) := by decide +kernel
theorem dX2_readTale_139 : decode cX2_readTale 139 = .ok (.iadd, 1) := by decide +kernel
theorem dX2_readTale_140 : decode cX2_readTale 140 = .ok (.putfield 196, 3) := by decide +kernel
theorem dX2_readTale_143 : decode cX2_readTale 143 = .ok (.iconst 1, 1) := by decide +kernel
theorem dX2_readTale_144 : decode cX2_readTale 144 = .ok (.ireturn, 1) := by decide +kernel
theorem dX2_readClause_0 : decode cX2_readClause 0 = .ok (.aload_n 0, 1) := by decide +kernel
theorem dX2_readClause_1 : decode cX2_readClause 1 = .ok (.ldc 83, 2) := by decide +kernel
theorem dX2_readClause_3 : decode cX2_readClause 3 = .ok (.invokevirtual 85, 3) := by decide +kernel
theorem dX2_readClause_6 : decode cX2_readClause 6 = .ok (.ifCond .eq 31, 3) := by decide +kernel
theorem dX2_readClause_9 : decode cX2_readClause 9 = .ok (.aload_n 0, 1) := by decide +kernel
theorem dX2_readClause_10 : decode cX2_readClause 10 = .ok (.iconst 1, 1) := by decide +kernel
theorem dX2_readClause_11 : decode cX2_readClause 11 = .ok (.invokevirtual 89, 3) := by decide +kernel
theorem dX2_readClause_14 : decode cX2_readClause 14 = .ok (.ifCond .eq 21, 3) := by decide +kernel
theorem dX2_readClause_17 : decode cX2_readClause 17 = .ok (.aload_n 0, 1) := by decide +kernel
theorem dX2_readClause_18 : decode cX2_readClause 18 = .ok (.invokevirtual 92, 3) := by decide +kernel
theorem dX2_readClause_21 : decode cX2_readClause 21 = .ok (.ifCond .eq 14, 3) := by decide +kernel
theorem dX2_readClause_24 : decode cX2_readClause 24 = .ok (.aload_n 0, 1) := by decide +kernel
theorem dX2_readClause_25 : decode cX2_readClause 25 = .ok (.invokevirtual 96, 3) := by decide +kernel
theorem dX2_readClause_28 : decode cX2_readClause 28 = .ok (.ifCond .eq 7, 3) := by decide +kernel
theorem dX2_readClause_31 : decode cX2_readClause 31 = .ok (.iconst 1, 1) := by decide +kernel
theorem dX2_readClause_32 : decode cX2_readClause 32 = .ok (.goto 4, 3) := by decide +kernel
theorem dX2_readClause_35 : decode cX2_readClause 35 = .ok (.iconst 0, 1) := by decide +kernel
theorem dX2_readClause_36 : decode cX2_readClause 36 = .ok (.ireturn, 1) := by decide +kernel
theorem dX2_readClause_37 : decode cX2_readClause 37 = .ok (.aload_n 0, 1) := by decide +kernel
theorem dX2_readClause_38 : decode cX2_readClause 38 = .ok (.ldc 99, 2) := by decide +kernel
theorem dX2_readClause_40 : decode cX2_readClause 40 = .ok (.invokevirtual 85, 3) := by decide +kernel
theorem dX2_readClause_43 : decode cX2_readClause 43 = .ok (.ifCond .eq 31, 3) := by decide +kernel
theorem dX2_readClause_46 : decode cX2_readClause 46 = .ok (.aload_n 0, 1) := by decide +kernel
theorem dX2_readClause_47 : decode cX2_readClause 47 = .ok (.iconst 2, 1) := by decide +kernel
theorem dX2_readClause_48 : decode cX2_readClause 48 = .ok (.invokevirtual 89, 3) := by decide +kernel
theorem dX2_readClause_51 : decode cX2_readClause 51 = .ok (.ifCond .eq 21, 3) := by decide +kernel
theorem dX2_readClause_54 : decode cX2_readClause 54 = .ok (.aload_n 0, 1) := by decide +kernel
theorem dX2_readClause_55 : decode cX2_readClause 55 = .ok (.invokevirtual 101, 3) := by decide +kernel
theorem dX2_readClause_58 : decode cX2_readClause 58 = .ok (.ifCond .eq 14, 3) := by decide +kernel
theorem dX2_readClause_61 : decode cX2_readClause 61 = .ok (.aload_n 0, 1) := by decide +kernel
theorem dX2_readClause_62 : decode cX2_readClause 62 = .ok (.invokevirtual 96, 3) := by decide +kernel
theorem dX2_readClause_65 : decode cX2_readClause 65 = .ok (.ifCond .eq 7, 3) := by decide +kernel
theorem dX2_readClause_68 : decode cX2_readClause 68 = .ok (.iconst 1, 1) := by decide +kernel
theorem dX2_readClause_69 : decode cX2_readClause 69 = .ok (.goto 4, 3) := by decide +kernel
theorem dX2_readClause_72 : decode cX2_readClause 72 = .ok (.iconst 0, 1) := by decide +kernel
theorem dX2_readClause_73 : decode cX2_readClause 73 = .ok (.ireturn, 1) := by decide +kernel
theorem dX2_readClause_74 : decode cX2_readClause 74 = .ok (.aload_n 0, 1) := by decide +kernel
theorem dX2_readClause_75 : decode cX2_readClause 75 = .ok (.ldc 104, 2) := by decide +kernel
theorem dX2_readClause_77 : decode cX2_readClause 77 = .ok (.invokevirtual 85, 3) := by decide +kernel
theorem dX2_readClause_80 : decode cX2_readClause 80 = .ok (.ifCond .eq 23, 3) := by decide +kernel
theorem dX2_readClause_83 : decode cX2_readClause 83 = .ok (.aload_n 0, 1) := by decide +kernel
theorem dX2_readClause_84 : decode cX2_readClause 84 = .ok (.invokevirtual 106, 3) := by decide +kernel
theorem dX2_readClause_87 : decode cX2_readClause 87 = .ok (.ifCond .eq 14, 3) := by decide +kernel
theorem dX2_readClause_90 : decode cX2_readClause 90 = .ok (.aload_n 0, 1) := by decide +kernel
theorem dX2_readClause_91 : decode cX2_readClause 91 = .ok (.invokevirtual 96, 3) := by decide +kernel
theorem dX2_readClause_94 : decode cX2_readClause 94 = .ok (.ifCond .eq 7, 3) := by decide +kernel
theorem dX2_readClause_97 : decode cX2_readClause 97 = .ok (.iconst 1, 1) := by decide +kernel
theorem dX2_readClause_98 : decode cX2_readClause 98 = .ok (.goto 4, 3) := by decide +kernel
theorem dX2_readClause_101 : decode cX2_readClause 101 = .ok (.iconst 0, 1) := by decide +kernel
theorem dX2_readClause_102 : decode cX2_readClause 102 = .ok (.ireturn, 1) := by decide +kernel
theorem dX2_readClause_103 : decode cX2_readClause 103 = .ok (.aload_n 0, 1) := by decide +kernel
theorem dX2_readClause_104 : decode cX2_readClause 104 = .ok (.ldc 109, 2) := by decide +kernel
theorem dX2_readClause_106 : decode cX2_readClause 106 = .ok (.invokevirtual 85, 3) := by decide +kernel
theorem dX2_readClause_109 : decode cX2_readClause 109 = .ok (.ifCond .eq 31, 3) := by decide +kernel
theorem dX2_readClause_112 : decode cX2_readClause 112 = .ok (.aload_n 0, 1) := by decide +kernel
theorem dX2_readClause_113 : decode cX2_readClause 113 = .ok (.iconst 4, 1) := by decide +kernel
theorem dX2_readClause_114 : decode cX2_readClause 114 = .ok (.invokevirtual 89, 3) := by decide +kernel
theorem dX2_readClause_117 : decode cX2_readClause 117 = .ok (.ifCond .eq 21, 3) := by decide +kernel
theorem dX2_readClause_120 : decode cX2_readClause 120 = .ok (.aload_n 0, 1) := by decide +kernel
theorem dX2_readClause_121 : decode cX2_readClause 121 = .ok (.invokevirtual 111, 3) := by decide +kernel
theorem dX2_readClause_124 : decode cX2_readClause 124 = .ok (.ifCond .eq 14, 3) := by decide +kernel
theorem dX2_readClause_127 : decode cX2_readClause 127 = .ok (.aload_n 0, 1) := by decide +kernel
theorem dX2_readClause_128 : decode cX2_readClause 128 = .ok (.invokevirtual 96, 3) := by decide +kernel
theorem dX2_readClause_131 : decode cX2_readClause 131 = .ok (.ifCond .eq 7, 3) := by decide +kernel
theorem dX2_readClause_134 : decode cX2_readClause 134 = .ok (.iconst 1, 1) := by decide +kernel
theorem dX2_readClause_135 : decode cX2_readClause 135 = .ok (.goto 4, 3) := by decide +kernel
theorem dX2_readClause_138 : decode cX2_readClause 138 = .ok (.iconst 0, 1) := by decide +kernel
theorem dX2_readClause_139 : decode cX2_readClause 139 = .ok (.ireturn, 1) := by decide +kernel
theorem dX2_readClause_140 : decode cX2_readClause 140 = .ok (.aload_n 0, 1) := by decide +kernel
theorem dX2_readClause_141 : decode cX2_readClause 141 = .ok (.ldc 114, 2) := by decide +kernel
theorem dX2_readClause_143 : decode cX2_readClause 143 = .ok (.invokevirtual 85, 3) := by decide +kernel
theorem dX2_readClause_146 : decode cX2_readClause 146 = .ok (.ifCond .eq 43, 3) := by decide +kernel
theorem dX2_readClause_149 : decode cX2_readClause 149 = .ok (.aload_n 0, 1) := by decide +kernel
theorem dX2_readClause_150 : decode cX2_readClause 150 = .ok (.bipush 8, 2) := by decide +kernel
theorem dX2_readClause_152 : decode cX2_readClause 152 = .ok (.invokevirtual 89, 3) := by decide +kernel
theorem dX2_readClause_155 : decode cX2_readClause 155 = .ok (.ifCond .eq 32, 3) := by decide +kernel
theorem dX2_readClause_158 : decode cX2_readClause 158 = .ok (.aload_n 0, 1) := by decide +kernel
theorem dX2_readClause_159 : decode cX2_readClause 159 = .ok (.aload_n 0, 1) := by decide +kernel
theorem dX2_readClause_160 : decode cX2_readClause 160 = .ok (.getfield 22, 3) := by decide +kernel
theorem dX2_readClause_163 : decode cX2_readClause 163 = .ok (.getfield 116, 3) := by decide +kernel
theorem dX2_readClause_166 : decode cX2_readClause 166 = .ok (.iconst 0, 1) := by decide +kernel
theorem dX2_readClause_167 : decode cX2_readClause 167 = .ok (.sipush 200, 3) := by decide +kernel
theorem dX2_readClause_170 : decode cX2_readClause 170 = .ok (.invokevirtual 119, 3) := by decide +kernel
theorem dX2_readClause_173 : decode cX2_readClause 173 = .ok (.ifCond .eq 14, 3) := by decide +kernel
theorem dX2_readClause_176 : decode cX2_readClause 176 = .ok (.aload_n 0, 1) := by decide +kernel
theorem dX2_readClause_177 : decode cX2_readClause 177 = .ok (.invokevirtual 96, 3) := by decide +kernel
theorem dX2_readClause_180 : decode cX2_readClause 180 = .ok (.ifCond .eq 7, 3) := by decide +kernel
theorem dX2_readClause_183 : decode cX2_readClause 183 = .ok (.iconst 1, 1) := by decide +kernel
theorem dX2_readClause_184 : decode cX2_readClause 184 = .ok (.goto 4, 3) := by decide +kernel
theorem dX2_readClause_187 : decode cX2_readClause 187 = .ok (.iconst 0, 1) := by decide +kernel
theorem dX2_readClause_188 : decode cX2_readClause 188 = .ok (.ireturn, 1) := by decide +kernel
theorem dX2_readClause_189 : decode cX2_readClause 189 = .ok (.aload_n 0, 1) := by decide +kernel
theorem dX2_readClause_190 : decode cX2_readClause 190 = .ok (.ldc 123, 2) := by decide +kernel
theorem dX2_readClause_192 : decode cX2_readClause 192 = .ok (.invokevirtual 85, 3) := by decide +kernel
theorem dX2_readClause_195 : decode cX2_readClause 195 = .ok (.ifCond .eq 23, 3) := by decide +kernel
theorem dX2_readClause_198 : decode cX2_readClause 198 = .ok (.aload_n 0, 1) := by decide +kernel
theorem dX2_readClause_199 : decode cX2_readClause 199 = .ok (.invokevirtual 125, 3) := by decide +kernel
theorem dX2_readClause_202 : decode cX2_readClause 202 = .ok (.ifCond .eq 14, 3) := by decide +kernel
theorem dX2_readClause_205 : decode cX2_readClause 205 = .ok (.aload_n 0, 1) := by decide +kernel
theorem dX2_readClause_206 : decode cX2_readClause 206 = .ok (.invokevirtual 96, 3) := by decide +kernel
theorem dX2_readClause_209 : decode cX2_readClause 209 = .ok (.ifCond .eq 7, 3) := by decide +kernel
theorem dX2_readClause_212 : decode cX2_readClause 212 = .ok (.iconst 1, 1) := by decide +kernel
theorem dX2_readClause_213 : decode cX2_readClause 213 = .ok (.goto 4, 3) := by decide +kernel
theorem dX2_readClause_216 : decode cX2_readClause 216 = .ok (.iconst 0, 1) := by decide +kernel
theorem dX2_readClause_217 : decode cX2_readClause 217 = .ok (.ireturn, 1) := by decide +kernel
theorem dX2_readClause_218 : decode cX2_readClause 218 = .ok (.aload_n 0, 1) := by decide +kernel
theorem dX2_readClause_219 : decode cX2_readClause 219 = .ok (.ldc 128, 2) := by decide +kernel
theorem dX2_readClause_221 : decode cX2_readClause 221 = .ok (.invokevirtual 85, 3) := by decide +kernel
theorem dX2_readClause_224 : decode cX2_readClause 224 = .ok (.ifCond .eq 23, 3) := by decide +kernel
theorem dX2_readClause_227 : decode cX2_readClause 227 = .ok (.aload_n 0, 1) := by decide +kernel
theorem dX2_readClause_228 : decode cX2_readClause 228 = .ok (.invokevirtual 130, 3) := by decide +kernel
theorem dX2_readClause_231 : decode cX2_readClause 231 = .ok (.ifCond .eq 14, 3) := by decide +kernel
theorem dX2_readClause_234 : decode cX2_readClause 234 = .ok (.aload_n 0, 1) := by decide +kernel
theorem dX2_readClause_235 : decode cX2_readClause 235 = .ok (.invokevirtual 96, 3) := by decide +kernel
theorem dX2_readClause_238 : decode cX2_readClause 238 = .ok (.ifCond .eq 7, 3) := by decide +kernel
theorem dX2_readClause_241 : decode cX2_readClause 241 = .ok (.iconst 1, 1) := by decide +kernel
theorem dX2_readClause_242 : decode cX2_readClause 242 = .ok (.goto 4, 3) := by decide +kernel
theorem dX2_readClause_245 : decode cX2_readClause 245 = .ok (.iconst 0, 1) := by decide +kernel
theorem dX2_readClause_246 : decode cX2_readClause 246 = .ok (.ireturn, 1) := by decide +kernel
theorem dX2_readClause_247 : decode cX2_readClause 247 = .ok (.aload_n 0, 1) := by decide +kernel
theorem dX2_readClause_248 : decode cX2_readClause 248 = .ok (.ldc 133, 2) := by decide +kernel
theorem dX2_readClause_250 : decode cX2_readClause 250 = .ok (.invokevirtual 85, 3) := by decide +kernel
theorem dX2_readClause_253 : decode cX2_readClause 253 = .ok (.ifCond .eq 10, 3) := by decide +kernel
theorem dX2_readClause_256 : decode cX2_readClause 256 = .ok (.aload_n 0, 1) := by decide +kernel
theorem dX2_readClause_257 : decode cX2_readClause 257 = .ok (.invokevirtual 135, 3) := by decide +kernel
theorem dX2_readClause_260 : decode cX2_readClause 260 = .ok (.goto 8, 3) := by decide +kernel
theorem dX2_readClause_263 : decode cX2_readClause 263 = .ok (.aload_n 0, 1) := by decide +kernel
theorem dX2_readClause_264 : decode cX2_readClause 264 = .ok (.iconst 1, 1) := by decide +kernel
theorem dX2_readClause_265 : decode cX2_readClause 265 = .ok (.invokevirtual 138, 3) := by decide +kernel
theorem dX2_readClause_268 : decode cX2_readClause 268 = .ok (.ireturn, 1) := by decide +kernel
theorem dX10_cloth_0 : decode cX10_cloth 0 = .ok (.aload_n 0, 1) := by decide +kernel
theorem dX10_cloth_1 : decode cX10_cloth 1 = .ok (.getfield 37, 3) := by decide +kernel
theorem dX10_cloth_4 : decode cX10_cloth 4 = .ok (.aload_n 0, 1) := by decide +kernel
theorem dX10_cloth_5 : decode cX10_cloth 5 = .ok (.getfield 28, 3) := by decide +kernel
theorem dX10_cloth_8 : decode cX10_cloth 8 = .ok (.invokevirtual 97, 3) := by decide +kernel
theorem dX10_cloth_11 : decode cX10_cloth 11 = .ok (.iconst 1, 1) := by decide +kernel
theorem dX10_cloth_12 : decode cX10_cloth 12 = .ok (.istore_n 1, 1) := by decide +kernel
theorem dX10_cloth_13 : decode cX10_cloth 13 = .ok (.iload_n 1, 1) := by decide +kernel
theorem dX10_cloth_14 : decode cX10_cloth 14 = .ok (.ifCond .eq 50, 3) := by decide +kernel
theorem dX10_cloth_17 : decode cX10_cloth 17 = .ok (.aload_n 0, 1) := by decide +kernel
theorem dX10_cloth_18 : decode cX10_cloth 18 = .ok (.getfield 28, 3) := by decide +kernel
theorem dX10_cloth_21 : decode cX10_cloth 21 = .ok (.getfield 100, 3) := by decide +kernel
theorem dX10_cloth_24 : decode cX10_cloth 24 = .ok (.sipush 900, 3) := by decide +kernel
theorem dX10_cloth_27 : decode cX10_cloth 27 = .ok (.if_icmp .ge 37, 3) := by decide +kernel
theorem dX10_cloth_30 : decode cX10_cloth 30 = .ok (.aload_n 0, 1) := by decide +kernel
theorem dX10_cloth_31 : decode cX10_cloth 31 = .ok (.getfield 37, 3) := by decide +kernel
theorem dX10_cloth_34 : decode cX10_cloth 34 = .ok (.invokevirtual 103, 3) := by decide +kernel
theorem dX10_cloth_37 : decode cX10_cloth 37 = .ok (.ifCond .eq 27, 3) := by decide +kernel
theorem dX10_cloth_40 : decode cX10_cloth 40 = .ok (.aload_n 0, 1) := by decide +kernel
theorem dX10_cloth_41 : decode cX10_cloth 41 = .ok (.getfield 37, 3) := by decide +kernel
theorem dX10_cloth_44 : decode cX10_cloth 44 = .ok (.invokevirtual 107, 3) := by decide +kernel
theorem dX10_cloth_47 : decode cX10_cloth 47 = .ok (.istore_n 1, 1) := by decide +kernel
theorem dX10_cloth_48 : decode cX10_cloth 48 = .ok (.aload_n 0, 1) := by decide +kernel
theorem dX10_cloth_49 : decode cX10_cloth 49 = .ok (.getfield 28, 3) := by decide +kernel
theorem dX10_cloth_52 : decode cX10_cloth 52 = .ok (.dup, 1) := by decide +kernel
theorem dX10_cloth_53 : decode cX10_cloth 53 = .ok (.getfield 100, 3) := by decide +kernel
theorem dX10_cloth_56 : decode cX10_cloth 56 = .ok (.iconst 1, 1) := by decide +kernel
theorem dX10_cloth_57 : decode cX10_cloth 57 = .ok (.iadd, 1) := by decide +kernel
theorem dX10_cloth_58 : decode cX10_cloth 58 = .ok (.putfield 100, 3) := by decide +kernel
theorem dX10_cloth_61 : decode cX10_cloth 61 = .ok (.goto (-48), 3) := by decide +kernel
theorem dX10_cloth_64 : decode cX10_cloth 64 = .ok (.aload_n 0, 1) := by decide +kernel
theorem dX10_cloth_65 : decode cX10_cloth 65 = .ok (.getfield 10, 3) := by decide +kernel
theorem dX10_cloth_68 : decode cX10_cloth 68 = .ok (.iconst 0, 1) := by decide +kernel
theorem dX10_cloth_69 : decode cX10_cloth 69 = .ok (.putfield 89, 3) := by decide +kernel
theorem dX10_cloth_72 : decode cX10_cloth 72 = .ok (.iload_n 1, 1) := by decide +kernel
theorem dX10_cloth_73 : decode cX10_cloth 73 = .ok (.ifCond .ne 5, 3) := by decide +kernel
theorem dX10_cloth_76 : decode cX10_cloth 76 = .ok (.iconst (-1), 1) := by decide +kernel
theorem dX10_cloth_77 : decode cX10_cloth 77 = .ok (.ireturn, 1) := by decide +kernel
theorem dX10_cloth_78 : decode cX10_cloth 78 = .ok (.aload_n 0, 1) := by decide +kernel
theorem dX10_cloth_79 : decode cX10_cloth 79 = .ok (.getfield 24, 3) := by decide +kernel
theorem dX10_cloth_82 : decode cX10_cloth 82 = .ok (.getfield 110, 3) := by decide +kernel
theorem dX10_cloth_85 : decode cX10_cloth 85 = .ok (.astore_n 2, 1) := by decide +kernel
theorem dX10_cloth_86 : decode cX10_cloth 86 = .ok (.aload_n 0, 1) := by decide +kernel
theorem dX10_cloth_87 : decode cX10_cloth 87 = .ok (.getfield 24, 3) := by decide +kernel
theorem dX10_cloth_90 : decode cX10_cloth 90 = .ok (.aload_n 0, 1) := by decide +kernel
theorem dX10_cloth_91 : decode cX10_cloth 91 = .ok (.getfield 28, 3) := by decide +kernel
theorem dX10_cloth_94 : decode cX10_cloth 94 = .ok (.invokevirtual 113, 3) := by decide +kernel
theorem dX10_cloth_97 : decode cX10_cloth 97 = .ok (.aload_n 0, 1) := by decide +kernel
theorem dX10_cloth_98 : decode cX10_cloth 98 = .ok (.aload_n 2, 1) := by decide +kernel
theorem dX10_cloth_99 : decode cX10_cloth 99 = .ok (.putfield 28, 3) := by decide +kernel
theorem dX10_cloth_102 : decode cX10_cloth 102 = .ok (.aload_n 0, 1) := by decide +kernel
theorem dX10_cloth_103 : decode cX10_cloth 103 = .ok (.getfield 44, 3) := by decide +kernel
theorem dX10_cloth_106 : decode cX10_cloth 106 = .ok (.invokevirtual 116, 3) := by decide +kernel
theorem dX10_cloth_109 : decode cX10_cloth 109 = .ok (.iconst 0, 1) := by decide +kernel
theorem dX10_cloth_110 : decode cX10_cloth 110 = .ok (.istore_n 3, 1) := by decide +kernel
theorem dX10_cloth_111 : decode cX10_cloth 111 = .ok (.iload_n 3, 1) := by decide +kernel
theorem dX10_cloth_112 : decode cX10_cloth 112 = .ok (.aload_n 0, 1) := by decide +kernel
theorem dX10_cloth_113 : decode cX10_cloth 113 = .ok (.getfield 48, 3) := by decide +kernel
theorem dX10_cloth_116 : decode cX10_cloth 116 = .ok (.arraylength, 1) := by decide +kernel
theorem dX10_cloth_117 : decode cX10_cloth 117 = .ok (.if_icmp .ge 19, 3) := by decide +kernel
theorem dX10_cloth_120 : decode cX10_cloth 120 = .ok (.aload_n 0, 1) := by decide +kernel
theorem dX10_cloth_121 : decode cX10_cloth 121 = .ok (.getfield 48, 3) := by decide +kernel
theorem dX10_cloth_124 : decode cX10_cloth 124 = .ok (.iload_n 3, 1) := by decide +kernel
theorem dX10_cloth_125 : decode cX10_cloth 125 = .ok (.aaload, 1) := by decide +kernel
theorem dX10_cloth_126 : decode cX10_cloth 126 = .ok (.iconst 0, 1) := by decide +kernel
theorem dX10_cloth_127 : decode cX10_cloth 127 = .ok (.putfield 119, 3) := by decide +kernel
theorem dX10_cloth_130 : decode cX10_cloth 130 = .ok (.iinc 3 1, 3) := by decide +kernel
theorem dX10_cloth_133 : decode cX10_cloth 133 = .ok (.goto (-22), 3) := by decide +kernel
theorem dX10_cloth_136 : decode cX10_cloth 136 = .ok (.aload_n 0, 1) := by decide +kernel
theorem dX10_cloth_137 : decode cX10_cloth 137 = .ok (.getfield 24, 3) := by decide +kernel
theorem dX10_cloth_140 : decode cX10_cloth 140 = .ok (.getfield 110, 3) := by decide +kernel
theorem dX10_cloth_143 : decode cX10_cloth 143 = .ok (.getfield 100, 3) := by decide +kernel
theorem dX10_cloth_146 : decode cX10_cloth 146 = .ok (.ireturn, 1) := by decide +kernel
theorem dX11_keyAt_0 : decode cX11_keyAt 0 = .ok (.iconst 0, 1) := by decide +kernel
theorem dX11_keyAt_1 : decode cX11_keyAt 1 = .ok (.istore_n 3, 1) := by decide +kernel
theorem dX11_keyAt_2 : decode cX11_keyAt 2 = .ok (.iconst 0, 1) := by decide +kernel
theorem dX11_keyAt_3 : decode cX11_keyAt 3 = .ok (.istore 4, 2) := by decide +kernel
theorem dX11_keyAt_5 : decode cX11_keyAt 5 = .ok (.iconst 0, 1) := by decide +kernel
theorem dX11_keyAt_6 : decode cX11_keyAt 6 = .ok (.istore 5, 2) := by decide +kernel
theorem dX11_keyAt_8 : decode cX11_keyAt 8 = .ok (.iload 5, 2) := by decide +kernel
theorem dX11_keyAt_10 : decode cX11_keyAt 10 = .ok (.ldc 116, 2) := by decide +kernel
theorem dX11_keyAt_12 : decode cX11_keyAt 12 = .ok (.invokevirtual 118, 3) := by decide +kernel
theorem dX11_keyAt_15 : decode cX11_keyAt 15 = .ok (.if_icmp .ge 104, 3) := by decide +kernel
theorem dX11_keyAt_18 : decode cX11_keyAt 18 = .ok (.ldc 116, 2) := by decide +kernel
theorem dX11_keyAt_20 : decode cX11_keyAt 20 = .ok (.iload 5, 2) := by decide +kernel
theorem dX11_keyAt_22 : decode cX11_keyAt 22 = .ok (.invokevirtual 124, 3) := by decide +kernel
theorem dX11_keyAt_25 : decode cX11_keyAt 25 = .ok (.bipush 32, 2) := by decide +kernel
theorem dX11_keyAt_27 : decode cX11_keyAt 27 = .ok (.if_icmp .eq 6, 3) := by decide +kernel
theorem dX11_keyAt_30 : decode cX11_keyAt 30 = .ok (.goto 83, 3) := by decide +kernel
theorem dX11_keyAt_33 : decode cX11_keyAt 33 = .ok (.iload 5, 2) := by decide +kernel
theorem dX11_keyAt_35 : decode cX11_keyAt 35 = .ok (.iload 4, 2) := by decide +kernel
theorem dX11_keyAt_37 : decode cX11_keyAt 37 = .ok (.isub, 1) := by decide +kernel
theorem dX11_keyAt_38 : decode cX11_keyAt 38 = .ok (.iload_n 2, 1) := by decide +kernel
theorem dX11_keyAt_39 : decode cX11_keyAt 39 = .ok (.if_icmp .ne 7, 3) := by decide +kernel
theorem dX11_keyAt_42 : decode cX11_keyAt 42 = .ok (.iconst 1, 1) := by decide +kernel
theorem dX11_keyAt_43 : decode cX11_keyAt 43 = .ok (.goto 4, 3) := by decide +kernel
theorem dX11_keyAt_46 : decode cX11_keyAt 46 = .ok (.iconst 0, 1) := by decide +kernel
theorem dX11_keyAt_47 : decode cX11_keyAt 47 = .ok (.istore 6, 2) := by decide +kernel
theorem dX11_keyAt_49 : decode cX11_keyAt 49 = .ok (.iconst 0, 1) := by decide +kernel
theorem dX11_keyAt_50 : decode cX11_keyAt 50 = .ok (.istore 7, 2) := by decide +kernel
theorem dX11_keyAt_52 : decode cX11_keyAt 52 = .ok (.iload 7, 2) := by decide +kernel
theorem dX11_keyAt_54 : decode cX11_keyAt 54 = .ok (.iload_n 2, 1) := by decide +kernel
theorem dX11_keyAt_55 : decode cX11_keyAt 55 = .ok (.if_icmp .ge 42, 3) := by decide +kernel
theorem dX11_keyAt_58 : decode cX11_keyAt 58 = .ok (.iload 6, 2) := by decide +kernel
theorem dX11_keyAt_60 : decode cX11_keyAt 60 = .ok (.ifCond .eq 37, 3) := by decide +kernel
theorem dX11_keyAt_63 : decode cX11_keyAt 63 = .ok (.ldc 116, 2) := by decide +kernel
theorem dX11_keyAt_65 : decode cX11_keyAt 65 = .ok (.iload 4, 2) := by decide +kernel
theorem dX11_keyAt_67 : decode cX11_keyAt 67 = .ok (.iload 7, 2) := by decide +kernel
theorem dX11_keyAt_69 : decode cX11_keyAt 69 = .ok (.iadd, 1) := by decide +kernel
theorem dX11_keyAt_70 : decode cX11_keyAt 70 = .ok (.invokevirtual 124, 3) := by decide +kernel
theorem dX11_keyAt_73 : decode cX11_keyAt 73 = .ok (.aload_n 0, 1) := by decide +kernel
theorem dX11_keyAt_74 : decode cX11_keyAt 74 = .ok (.iload_n 1, 1) := by decide +kernel
theorem dX11_keyAt_75 : decode cX11_keyAt 75 = .ok (.iload 7, 2) := by decide +kernel
theorem dX11_keyAt_77 : decode cX11_keyAt 77 = .ok (.iadd, 1) := by decide +kernel
theorem dX11_keyAt_78 : decode cX11_keyAt 78 = .ok (.invokevirtual 128, 3) := by decide +kernel
theorem dX11_keyAt_81 : decode cX11_keyAt 81 = .ok (.if_icmp .ne 7, 3) := by decide +kernel
theorem dX11_keyAt_84 : decode cX11_keyAt 84 = .ok (.iconst 1, 1) := by decide +kernel
theorem dX11_keyAt_85 : decode cX11_keyAt 85 = .ok (.goto 4, 3) := by decide +kernel
theorem dX11_keyAt_88 : decode cX11_keyAt 88 = .ok (.iconst 0, 1) := by decide +kernel
theorem dX11_keyAt_89 : decode cX11_keyAt 89 = .ok (.istore 6, 2) := by decide +kernel
theorem dX11_keyAt_91 : decode cX11_keyAt 91 = .ok (.iinc 7 1, 3) := by decide +kernel
theorem dX11_keyAt_94 : decode cX11_keyAt 94 = .ok (.goto (-42), 3) := by decide +kernel
theorem dX11_keyAt_97 : decode cX11_keyAt 97 = .ok (.iload 6, 2) := by decide +kernel
theorem dX11_keyAt_99 : decode cX11_keyAt 99 = .ok (.ifCond .eq 5, 3) := by decide +kernel
theorem dX11_keyAt_102 : decode cX11_keyAt 102 = .ok (.iload_n 3, 1) := by decide +kernel
theorem dX11_keyAt_103 : decode cX11_keyAt 103 = .ok (.ireturn, 1) := by decide +kernel
theorem dX11_keyAt_104 : decode cX11_keyAt 104 = .ok (.iinc 3 1, 3) := by decide +kernel
theorem dX11_keyAt_107 : decode cX11_keyAt 107 = .ok (.iload 5, 2) := by decide +kernel
theorem dX11_keyAt_109 : decode cX11_keyAt 109 = .ok (.iconst 1, 1) := by decide +kernel
theorem dX11_keyAt_110 : decode cX11_keyAt 110 = .ok (.iadd, 1) := by decide +kernel
theorem dX11_keyAt_111 : decode cX11_keyAt 111 = .ok (.istore 4, 2) := by decide +kernel
theorem dX11_keyAt_113 : decode cX11_keyAt 113 = .ok (.iinc 5 1, 3) := by decide +kernel
theorem dX11_keyAt_116 : decode cX11_keyAt 116 = .ok (.goto (-108), 3) := by decide +kernel
theorem dX11_keyAt_119 : decode cX11_keyAt 119 = .ok (.iconst (-1), 1) := by decide +kernel
theorem dX11_keyAt_120 : decode cX11_keyAt 120 = .ok (.ireturn, 1) := by decide +kernel
theorem dX11_scan_0 : decode cX11_scan 0 = .ok (.aload_n 0, 1) := by decide +kernel
theorem dX11_scan_1 : decode cX11_scan 1 = .ok (.getfield 132, 3) := by decide +kernel
theorem dX11_scan_4 : decode cX11_scan 4 = .ok (.istore_n 1, 1) := by decide +kernel
theorem dX11_scan_5 : decode cX11_scan 5 = .ok (.aload_n 0, 1) := by decide +kernel
theorem dX11_scan_6 : decode cX11_scan 6 = .ok (.iload_n 1, 1) := by decide +kernel
theorem dX11_scan_7 : decode cX11_scan 7 = .ok (.invokevirtual 128, 3) := by decide +kernel
theorem dX11_scan_10 : decode cX11_scan 10 = .ok (.bipush 32, 2) := by decide +kernel
theorem dX11_scan_12 : decode cX11_scan 12 = .ok (.if_icmp .eq 13, 3) := by decide +kernel
theorem dX11_scan_15 : decode cX11_scan 15 = .ok (.aload_n 0, 1) := by decide +kernel
theorem dX11_scan_16 : decode cX11_scan 16 = .ok (.iload_n 1, 1) := by decide +kernel
theorem dX11_scan_17 : decode cX11_scan 17 = .ok (.invokevirtual 128, 3) := by decide +kernel
theorem dX11_scan_20 : decode cX11_scan 20 = .ok (.bipush 10, 2) := by decide +kernel
theorem dX11_scan_22 : decode cX11_scan 22 = .ok (.if_icmp .ne 9, 3) := by decide +kernel
theorem dX11_scan_25 : decode cX11_scan 25 = .ok (.iinc 1 1, 3) := by decide +kernel
theorem dX11_scan_28 : decode cX11_scan 28 = .ok (.goto (-23), 3) := by decide +kernel
theorem dX11_scan_31 : decode cX11_scan 31 = .ok (.aload_n 0, 1) := by decide +kernel
theorem dX11_scan_32 : decode cX11_scan 32 = .ok (.iload_n 1, 1) := by decide +kernel
theorem dX11_scan_33 : decode cX11_scan 33 = .ok (.putfield 135, 3) := by decide +kernel
theorem dX11_scan_36 : decode cX11_scan 36 = .ok (.aload_n 0, 1) := by decide +kernel
theorem dX11_scan_37 : decode cX11_scan 37 = .ok (.iload_n 1, 1) := by decide +kernel
theorem dX11_scan_38 : decode cX11_scan 38 = .ok (.invokevirtual 128, 3) := by decide +kernel
theorem dX11_scan_41 : decode cX11_scan 41 = .ok (.istore_n 2, 1) := by decide +kernel
theorem dX11_scan_42 : decode cX11_scan 42 = .ok (.iload_n 1, 1) := by decide +kernel
theorem dX11_scan_43 : decode cX11_scan 43 = .ok (.iconst 1, 1) := by decide +kernel
theorem dX11_scan_44 : decode cX11_scan 44 = .ok (.iadd, 1) := by decide +kernel
theorem dX11_scan_45 : decode cX11_scan 45 = .ok (.istore_n 3, 1) := by decide +kernel
theorem dX11_scan_46 : decode cX11_scan 46 = .ok (.aload_n 0, 1) := by decide +kernel
theorem dX11_scan_47 : decode cX11_scan 47 = .ok (.iconst (-1), 1) := by decide +kernel
theorem dX11_scan_48 : decode cX11_scan 48 = .ok (.putfield 138, 3) := by decide +kernel
theorem dX11_scan_51 : decode cX11_scan 51 = .ok (.iload_n 2, 1) := by decide +kernel
theorem dX11_scan_52 : decode cX11_scan 52 = .ok (.iconst (-1), 1) := by decide +kernel
theorem dX11_scan_53 : decode cX11_scan 53 = .ok (.if_icmp .ne 13, 3) := by decide +kernel
theorem dX11_scan_56 : decode cX11_scan 56 = .ok (.aload_n 0, 1) := by decide +kernel
theorem dX11_scan_57 : decode cX11_scan 57 = .ok (.iconst 4, 1) := by decide +kernel
theorem dX11_scan_58 : decode cX11_scan 58 = .ok (.putfield 141, 3) := by decide +kernel
theorem dX11_scan_61 : decode cX11_scan 61 = .ok (.iload_n 1, 1) := by decide +kernel
theorem dX11_scan_62 : decode cX11_scan 62 = .ok (.istore_n 3, 1) := by decide +kernel
theorem dX11_scan_63 : decode cX11_scan 63 = .ok (.goto 207, 3) := by decide +kernel
theorem dX11_scan_66 : decode cX11_scan 66 = .ok (.iload_n 2, 1) := by decide +kernel
theorem dX11_scan_67 : decode cX11_scan 67 = .ok (.invokestatic 144, 3) := by decide +kernel
theorem dX11_scan_70 : decode cX11_scan 70 = .ok (.ifCond .eq 100, 3) := by decide +kernel
theorem dX11_scan_73 : decode cX11_scan 73 = .ok (.aload_n 0, 1) := by decide +kernel
theorem dX11_scan_74 : decode cX11_scan 74 = .ok (.lconst 0, 1) := by decide +kernel
theorem dX11_scan_75 : decode cX11_scan 75 = .ok (.putfield 148, 3) := by decide +kernel
theorem dX11_scan_78 : decode cX11_scan 78 = .ok (.iload_n 1, 1) := by decide +kernel
theorem dX11_scan_79 : decode cX11_scan 79 = .ok (.istore_n 3, 1) := by decide +kernel
theorem dX11_scan_80 : decode cX11_scan 80 = .ok (.aload_n 0, 1) := by decide +kernel
theorem dX11_scan_81 : decode cX11_scan 81 = .ok (.iload_n 3, 1) := by decide +kernel
theorem dX11_scan_82 : decode cX11_scan 82 = .ok (.invokevirtual 128, 3) := by decide +kernel
theorem dX11_scan_85 : decode cX11_scan 85 = .ok (.invokestatic 144, 3) := by decide +kernel
theorem dX11_scan_88 : decode cX11_scan 88 = .ok (.ifCond .eq 42, 3) := by decide +kernel
theorem dX11_scan_91 : decode cX11_scan 91 = .ok (.iload_n 3, 1) := by decide +kernel
theorem dX11_scan_92 : decode cX11_scan 92 = .ok (.iload_n 1, 1) := by decide +kernel
theorem dX11_scan_93 : decode cX11_scan 93 = .ok (.isub, 1) := by decide +kernel
theorem dX11_scan_94 : decode cX11_scan 94 = .ok (.bipush 8, 2) := by decide +kernel
theorem dX11_scan_96 : decode cX11_scan 96 = .ok (.if_icmp .ge 28, 3) := by decide +kernel
theorem dX11_scan_99 : decode cX11_scan 99 = .ok (.aload_n 0, 1) := by decide +kernel
theorem dX11_scan_100 : decode cX11_scan 100 = .ok (.ldc2_w 152, 3) := by decide +kernel
theorem dX11_scan_103 : decode cX11_scan 103 = .ok (.aload_n 0, 1) := by decide +kernel
theorem dX11_scan_104 : decode cX11_scan 104 = .ok (.getfield 148, 3) := by decide +kernel
theorem dX11_scan_107 : decode cX11_scan 107 = .ok (.lmul, 1) := by decide +kernel
theorem dX11_scan_108 : decode cX11_scan 108 = .ok (.aload_n 0, 1) := by decide +kernel
theorem dX11_scan_109 : decode cX11_scan 109 = .ok (.iload_n 3, 1) := by decide +kernel
theorem dX11_scan_110 : decode cX11_scan 110 = .ok (.invokevirtual 128, 3) := by decide +kernel
theorem dX11_scan_113 : decode cX11_scan 113 = .ok (.i2l, 1) := by decide +kernel
theorem dX11_scan_114 : decode cX11_scan 114 = .ok (.ladd, 1) := by decide +kernel
theorem dX11_scan_115 : decode cX11_scan 115 = .ok (.ldc2_w 154, 3) := by decide +kernel
theorem dX11_scan_118 : decode cX11_scan 118 = .ok (.lsub, 1) := by decide +kernel
theorem dX11_scan_119 : decode cX11_scan 119 = .ok (.lconst 1, 1) := by decide +kernel
theorem dX11_scan_120 : decode cX11_scan 120 = .ok (.ladd, 1) := by decide +kernel
theorem dX11_scan_121 : decode cX11_scan 121 = .ok (.putfield 148, 3) := by decide +kernel
theorem dX11_scan_124 : decode cX11_scan 124 = .ok (.iinc 3 1, 3) := by decide +kernel
theorem dX11_scan_127 : decode cX11_scan 127 = .ok (.goto (-47), 3) := by decide +kernel
theorem dX11_scan_130 : decode cX11_scan 130 = .ok (.aload_n 0, 1) := by decide +kernel
theorem dX11_scan_131 : decode cX11_scan 131 = .ok (.iload_n 3, 1) := by decide +kernel
theorem dX11_scan_132 : decode cX11_scan 132 = .ok (.iload_n 1, 1) := by decide +kernel
theorem dX11_scan_133 : decode cX11_scan 133 = .ok (.isub, 1) := by decide +kernel
theorem dX11_scan_134 : decode cX11_scan 134 = .ok (.bipush 8, 2) := by decide +kernel
theorem dX11_scan_136 : decode cX11_scan 136 = .ok (.if_icmp .le 7, 3) := by decide +kernel
theorem dX11_scan_139 : decode cX11_scan 139 = .ok (.iconst 0, 1) := by decide +kernel
theorem dX11_scan_140 : decode cX11_scan 140 = .ok (.goto 4, 3) := by decide +kernel
theorem dX11_scan_143 : decode cX11_scan 143 = .ok (.iconst 1, 1) := by decide +kernel
theorem dX11_scan_144 : decode cX11_scan 144 = .ok (.putfield 141, 3) := by decide +kernel
theorem dX11_scan_147 : decode cX11_scan 147 = .ok (.aload_n 0, 1) := by decide +kernel
theorem dX11_scan_148 : decode cX11_scan 148 = .ok (.getfield 141, 3) := by decide +kernel
theorem dX11_scan_151 : decode cX11_scan 151 = .ok (.iconst 1, 1) := by decide +kernel
theorem dX11_scan_152 : decode cX11_scan 152 = .ok (.if_icmp .ne 118, 3) := by decide +kernel
theorem dX11_scan_155 : decode cX11_scan 155 = .ok (.aload_n 0, 1) := by decide +kernel
theorem dX11_scan_156 : decode cX11_scan 156 = .ok (.aload_n 0, 1) := by decide +kernel
theorem dX11_scan_157 : decode cX11_scan 157 = .ok (.iload_n 1, 1) := by decide +kernel
theorem dX11_scan_158 : decode cX11_scan 158 = .ok (.iload_n 3, 1) := by decide +kernel
theorem dX11_scan_159 : decode cX11_scan 159 = .ok (.iload_n 1, 1) := by decide +kernel
theorem dX11_scan_160 : decode cX11_scan 160 = .ok (.isub, 1) := by decide +kernel
theorem dX11_scan_161 : decode cX11_scan 161 = .ok (.invokevirtual 156, 3) := by decide +kernel
theorem dX11_scan_164 : decode cX11_scan 164 = .ok (.putfield 138, 3) := by decide +kernel
theorem dX11_scan_167 : decode cX11_scan 167 = .ok (.goto 103, 3) := by decide +kernel
theorem dX11_scan_170 : decode cX11_scan 170 = .ok (.iload_n 2, 1) := by decide +kernel
theorem dX11_scan_171 : decode cX11_scan 171 = .ok (.invokestatic 160, 3) := by decide +kernel
theorem dX11_scan_174 : decode cX11_scan 174 = .ok (.ifCond .eq 81, 3) := by decide +kernel
theorem dX11_scan_177 : decode cX11_scan 177 = .ok (.aload_n 0, 1) := by decide +kernel
theorem dX11_scan_178 : decode cX11_scan 178 = .ok (.iload_n 2, 1) := by decide +kernel
theorem dX11_scan_179 : decode cX11_scan 179 = .ok (.bipush 48, 2) := by decide +kernel
theorem dX11_scan_181 : decode cX11_scan 181 = .ok (.isub, 1) := by decide +kernel
theorem dX11_scan_182 : decode cX11_scan 182 = .ok (.putfield 163, 3) := by decide +kernel
theorem dX11_scan_185 : decode cX11_scan 185 = .ok (.aload_n 0, 1) := by decide +kernel
theorem dX11_scan_186 : decode cX11_scan 186 = .ok (.iload_n 3, 1) := by decide +kernel
theorem dX11_scan_187 : decode cX11_scan 187 = .ok (.invokevirtual 128, 3) := by decide +kernel
theorem dX11_scan_190 : decode cX11_scan 190 = .ok (.invokestatic 160, 3) := by decide +kernel
theorem dX11_scan_193 : decode cX11_scan 193 = .ok (.ifCond .eq 43, 3) := by decide +kernel
theorem dX11_scan_196 : decode cX11_scan 196 = .ok (.aload_n 0, 1) := by decide +kernel
theorem dX11_scan_197 : decode cX11_scan 197 = .ok (.iload_n 3, 1) := by decide +kernel
theorem dX11_scan_198 : decode cX11_scan 198 = .ok (.iload_n 1, 1) := by decide +kernel
theorem dX11_scan_199 : decode cX11_scan 199 = .ok (.isub, 1) := by decide +kernel
theorem dX11_scan_200 : decode cX11_scan 200 = .ok (.iconst 4, 1) := by decide +kernel
theorem dX11_scan_201 : decode cX11_scan 201 = .ok (.if_icmp .ge 22, 3) := by decide +kernel
theorem dX11_scan_204 : decode cX11_scan 204 = .ok (.bipush 10, 2) := by decide +kernel
theorem dX11_scan_206 : decode cX11_scan 206 = .ok (.aload_n 0, 1) := by decide +kernel
theorem dX11_scan_207 : decode cX11_scan 207 = .ok (.getfield 163, 3) := by decide +kernel
theorem dX11_scan_210 : decode cX11_scan 210 = .ok (.imul, 1) := by decide +kernel
theorem dX11_scan_211 : decode cX11_scan 211 = .ok (.aload_n 0, 1) := by decide +kernel
theorem dX11_scan_212 : decode cX11_scan 212 = .ok (.iload_n 3, 1) := by decide +kernel
theorem dX11_scan_213 : decode cX11_scan 213 = .ok (.invokevirtual 128, 3) := by decide +kernel
theorem dX11_scan_216 : decode cX11_scan 216 = .ok (.iadd, 1) := by decide +kernel
theorem dX11_scan_217 : decode cX11_scan 217 = .ok (.bipush 48, 2) := by decide +kernel
theorem dX11_scan_219 : decode cX11_scan 219 = .ok (.isub, 1) := by decide +kernel
theorem dX11_scan_220 : decode cX11_scan 220 = .ok (.goto 7, 3) := by decide +kernel
theorem dX11_scan_223 : decode cX11_scan 223 = .ok (.aload_n 0, 1) := by decide +kernel
theorem dX11_scan_224 : decode cX11_scan 224 = .ok (.getfield 163, 3) := by decide +kernel
theorem dX11_scan_227 : decode cX11_scan 227 = .ok (.putfield 163, 3) := by decide +kernel
theorem dX11_scan_230 : decode cX11_scan 230 = .ok (.iinc 3 1, 3) := by decide +kernel
theorem dX11_scan_233 : decode cX11_scan 233 = .ok (.goto (-48), 3) := by decide +kernel
theorem dX11_scan_236 : decode cX11_scan 236 = .ok (.aload_n 0, 1) := by decide +kernel
theorem dX11_scan_237 : decode cX11_scan 237 = .ok (.iload_n 3, 1) := by decide +kernel
theorem dX11_scan_238 : decode cX11_scan 238 = .ok (.iload_n 1, 1) := by decide +kernel
theorem dX11_scan_239 : decode cX11_scan 239 = .ok (.isub, 1) := by decide +kernel
theorem dX11_scan_240 : decode cX11_scan 240 = .ok (.iconst 4, 1) := by decide +kernel
theorem dX11_scan_241 : decode cX11_scan 241 = .ok (.if_icmp .le 7, 3) := by decide +kernel
theorem dX11_scan_244 : decode cX11_scan 244 = .ok (.iconst 0, 1) := by decide +kernel
theorem dX11_scan_245 : decode cX11_scan 245 = .ok (.goto 4, 3) := by decide +kernel
theorem dX11_scan_248 : decode cX11_scan 248 = .ok (.iconst 2, 1) := by decide +kernel
theorem dX11_scan_249 : decode cX11_scan 249 = .ok (.putfield 141, 3) := by decide +kernel
theorem dX11_scan_252 : decode cX11_scan 252 = .ok (.goto 18, 3) := by decide +kernel
theorem dX11_scan_255 : decode cX11_scan 255 = .ok (.aload_n 0, 1) := by decide +kernel
theorem dX11_scan_256 : decode cX11_scan 256 = .ok (.iload_n 2, 1) := by decide +kernel
theorem dX11_scan_257 : decode cX11_scan 257 = .ok (.bipush 59, 2) := by decide +kernel
theorem dX11_scan_259 : decode cX11_scan 259 = .ok (.if_icmp .ne 7, 3) := by decide +kernel
theorem dX11_scan_262 : decode cX11_scan 262 = .ok (.iconst 3, 1) := by decide +kernel
theorem dX11_scan_263 : decode cX11_scan 263 = .ok (.goto 4, 3) := by decide +kernel
theorem dX11_scan_266 : decode cX11_scan 266 = .ok (.iconst 0, 1) := by decide +kernel
theorem dX11_scan_267 : decode cX11_scan 267 = .ok (.putfield 141, 3) := by decide +kernel
theorem dX11_scan_270 : decode cX11_scan 270 = .ok (.aload_n 0, 1) := by decide +kernel
theorem dX11_scan_271 : decode cX11_scan 271 = .ok (.iload_n 3, 1) := by decide +kernel
theorem dX11_scan_272 : decode cX11_scan 272 = .ok (.putfield 132, 3) := by decide +kernel
theorem dX11_scan_275 : decode cX11_scan 275 = .ok (.return_, 1) := by decide +kernel
theorem dX11_readNumber_0 : decode cX11_readNumber 0 = .ok (.aload_n 0, 1) := by decide +kernel
theorem dX11_readNumber_1 : decode cX11_readNumber 1 = .ok (.getfield 141, 3) := by decide +kernel
theorem dX11_readNumber_4 : decode cX11_readNumber 4 = .ok (.iconst 2, 1) := by decide +kernel
theorem dX11_readNumber_5 : decode cX11_readNumber 5 = .ok (.if_icmp .eq 9, 3) := by decide +kernel
theorem dX11_readNumber_8 : decode cX11_readNumber 8 = .ok (.aload_n 0, 1) := by decide +kernel
theorem dX11_readNumber_9 : decode cX11_readNumber 9 = .ok (.iconst 1, 1) := by decide +kernel
theorem dX11_readNumber_10 : decode cX11_readNumber 10 = .ok (.invokevirtual 169, 3) := by decide +kernel
theorem dX11_readNumber_13 : decode cX11_readNumber 13 = .ok (.ireturn, 1) := by decide +kernel
theorem dX11_readNumber_14 : decode cX11_readNumber 14 = .ok (.aload_n 0, 1) := by decide +kernel
theorem dX11_readNumber_15 : decode cX11_readNumber 15 = .ok (.getfield 163, 3) := by decide +kernel
theorem dX11_readNumber_18 : decode cX11_readNumber 18 = .ok (.iload_n 1, 1) := by decide +kernel
theorem dX11_readNumber_19 : decode cX11_readNumber 19 = .ok (.iload_n 2, 1) := by decide +kernel
theorem dX11_readNumber_20 : decode cX11_readNumber 20 = .ok (.invokestatic 172, 3) := by decide +kernel
theorem dX11_readNumber_23 : decode cX11_readNumber 23 = .ok (.ifCond .ne 9, 3) := by decide +kernel
theorem dX11_readNumber_26 : decode cX11_readNumber 26 = .ok (.aload_n 0, 1) := by decide +kernel
theorem dX11_readNumber_27 : decode cX11_readNumber 27 = .ok (.iconst 2, 1) := by decide +kernel
theorem dX11_readNumber_28 : decode cX11_readNumber 28 = .ok (.invokevirtual 169, 3) := by decide +kernel
theorem dX11_readNumber_31 : decode cX11_readNumber 31 = .ok (.ireturn, 1) := by decide +kernel
theorem dX11_readNumber_32 : decode cX11_readNumber 32 = .ok (.aload_n 0, 1) := by decide +kernel
theorem dX11_readNumber_33 : decode cX11_readNumber 33 = .ok (.aload_n 0, 1) := by decide +kernel
theorem dX11_readNumber_34 : decode cX11_readNumber 34 = .ok (.getfield 163, 3) := by decide +kernel
theorem dX11_readNumber_37 : decode cX11_readNumber 37 = .ok (.putfield 176, 3) := by decide +kernel
theorem dX11_readNumber_40 : decode cX11_readNumber 40 = .ok (.aload_n 0, 1) := by decide +kernel
theorem dX11_readNumber_41 : decode cX11_readNumber 41 = .ok (.invokevirtual 179, 3) := by decide +kernel
theorem dX11_readNumber_44 : decode cX11_readNumber 44 = .ok (.iconst 1, 1) := by decide +kernel
theorem dX11_readNumber_45 : decode cX11_readNumber 45 = .ok (.ireturn, 1) := by decide +kernel
theorem dX11_readEye_0 : decode cX11_readEye 0 = .ok (.aload_n 0, 1) := by decide +kernel
theorem dX11_readEye_1 : decode cX11_readEye 1 = .ok (.getfield 17, 3) := by decide +kernel
theorem dX11_readEye_4 : decode cX11_readEye 4 = .ok (.bipush 20, 2) := by decide +kernel
theorem dX11_readEye_6 : decode cX11_readEye 6 = .ok (.iaload, 1) := by decide +kernel
theorem dX11_readEye_7 : decode cX11_readEye 7 = .ok (.istore_n 1, 1) := by decide +kernel
theorem dX11_readEye_8 : decode cX11_readEye 8 = .ok (.iload_n 1, 1) := by decide +kernel
theorem dX11_readEye_9 : decode cX11_readEye 9 = .ok (.iconst 2, 1) := by decide +kernel
theorem dX11_readEye_10 : decode cX11_readEye 10 = .ok (.if_icmp .ne 9, 3) := by decide +kernel
theorem dX11_readEye_13 : decode cX11_readEye 13 = .ok (.aload_n 0, 1) := by decide +kernel
theorem dX11_readEye_14 : decode cX11_readEye 14 = .ok (.iconst 4, 1) := by decide +kernel
theorem dX11_readEye_15 : decode cX11_readEye 15 = .ok (.invokevirtual 169, 3) := by decide +kernel
theorem dX11_readEye_18 : decode cX11_readEye 18 = .ok (.ireturn, 1) := by decide +kernel
theorem dX11_readEye_19 : decode cX11_readEye 19 = .ok (.aload_n 0, 1) := by decide +kernel
theorem dX11_readEye_20 : decode cX11_readEye 20 = .ok (.invokevirtual 179, 3) := by decide +kernel
theorem dX11_readEye_23 : decode cX11_readEye 23 = .ok (.aload_n 0, 1) := by decide +kernel
theorem dX11_readEye_24 : decode cX11_readEye 24 = .ok (.getfield 141, 3) := by decide +kernel
theorem dX11_readEye_27 : decode cX11_readEye 27 = .ok (.iconst 1, 1) := by decide +kernel
theorem dX11_readEye_28 : decode cX11_readEye 28 = .ok (.if_icmp .eq 9, 3) := by decide +kernel
theorem dX11_readEye_31 : decode cX11_readEye 31 = .ok (.aload_n 0, 1) := by decide +kernel
theorem dX11_readEye_32 : decode cX11_readEye 32 = .ok (.iconst 1, 1) := by decide +kernel
theorem dX11_readEye_33 : decode cX11_readEye 33 = .ok (.invokevirtual 169, 3) := by decide +kernel
theorem dX11_readEye_36 : decode cX11_readEye 36 = .ok (.ireturn, 1) := by decide +kernel
theorem dX11_readEye_37 : decode cX11_readEye 37 = .ok (.iconst 0, 1) := by decide +kernel
theorem dX11_readEye_38 : decode cX11_readEye 38 = .ok (.istore_n 2, 1) := by decide +kernel
theorem dX11_readEye_39 : decode cX11_readEye 39 = .ok (.iload_n 2, 1) := by decide +kernel
theorem dX11_readEye_40 : decode cX11_readEye 40 = .ok (.iload_n 1, 1) := by decide +kernel
theorem dX11_readEye_41 : decode cX11_readEye 41 = .ok (.if_icmp .ge 29, 3) := by decide +kernel
theorem dX11_readEye_44 : decode cX11_readEye 44 = .ok (.aload_n 0, 1) := by decide +kernel
theorem dX11_readEye_45 : decode cX11_readEye 45 = .ok (.getfield 28, 3) := by decide +kernel
theorem dX11_readEye_48 : decode cX11_readEye 48 = .ok (.iload_n 2, 1) := by decide +kernel
theorem dX11_readEye_49 : decode cX11_readEye 49 = .ok (.laload, 1) := by decide +kernel
theorem dX11_readEye_50 : decode cX11_readEye 50 = .ok (.aload_n 0, 1) := by decide +kernel
theorem dX11_readEye_51 : decode cX11_readEye 51 = .ok (.getfield 148, 3) := by decide +kernel
theorem dX11_readEye_54 : decode cX11_readEye 54 = .ok (.lcmp, 1) := by decide +kernel
theorem dX11_readEye_55 : decode cX11_readEye 55 = .ok (.ifCond .ne 9, 3) := by decide +kernel
theorem dX11_readEye_58 : decode cX11_readEye 58 = .ok (.aload_n 0, 1) := by decide +kernel
theorem dX11_readEye_59 : decode cX11_readEye 59 = .ok (.iconst 3, 1) := by decide +kernel
theorem dX11_readEye_60 : decode cX11_readEye 60 = .ok (.invokevirtual 169, 3) := by decide +kernel
theorem dX11_readEye_63 : decode cX11_readEye 63 = .ok (.ireturn, 1) := by decide +kernel
theorem dX11_readEye_64 : decode cX11_readEye 64 = .ok (.iinc 2 1, 3) := by decide +kernel
theorem dX11_readEye_67 : decode cX11_readEye 67 = .ok (.goto (-28), 3) := by decide +kernel
theorem dX11_readEye_70 : decode cX11_readEye 70 = .ok (.aload_n 0, 1) := by decide +kernel
theorem dX11_readEye_71 : decode cX11_readEye 71 = .ok (.getfield 28, 3) := by decide +kernel
theorem dX11_readEye_74 : decode cX11_readEye 74 = .ok (.iload_n 1, 1) := by decide +kernel
theorem dX11_readEye_75 : decode cX11_readEye 75 = .ok (.aload_n 0, 1) := by decide +kernel
theorem dX11_readEye_76 : decode cX11_readEye 76 = .ok (.getfield 148, 3) := by decide +kernel
theorem dX11_readEye_79 : decode cX11_readEye 79 = .ok (.lastore, 1) := by decide +kernel
theorem dX11_readEye_80 : decode cX11_readEye 80 = .ok (.aload_n 0, 1) := by decide +kernel
theorem dX11_readEye_81 : decode cX11_readEye 81 = .ok (.invokevirtual 179, 3) := by decide +kernel
theorem dX11_readEye_84 : decode cX11_readEye 84 = .ok (.iconst 0, 1) := by decide +kernel
theorem dX11_readEye_85 : decode cX11_readEye 85 = .ok (.istore_n 2, 1) := by decide +kernel
theorem dX11_readEye_86 : decode cX11_readEye 86 = .ok (.iload_n 2, 1) := by decide +kernel
theorem dX11_readEye_87 : decode cX11_readEye 87 = .ok (.bipush 9, 2) := by decide +kernel
theorem dX11_readEye_89 : decode cX11_readEye 89 = .ok (.if_icmp .ge 63, 3) := by decide +kernel
theorem dX11_readEye_92 : decode cX11_readEye 92 = .ok (.iload_n 2, 1) := by decide +kernel
theorem dX11_readEye_93 : decode cX11_readEye 93 = .ok (.iconst 3, 1) := by decide +kernel
theorem dX11_readEye_94 : decode cX11_readEye 94 = .ok (.irem, 1) := by decide +kernel
theorem dX11_readEye_95 : decode cX11_readEye 95 = .ok (.ifCond .ne 22, 3) := by decide +kernel
theorem dX11_readEye_98 : decode cX11_readEye 98 = .ok (.aload_n 0, 1) := by decide +kernel
theorem dX11_readEye_99 : decode cX11_readEye 99 = .ok (.bipush 9, 2) := by decide +kernel
theorem dX11_readEye_101 : decode cX11_readEye 101 = .ok (.invokevirtual 200, 3) := by decide +kernel
theorem dX11_readEye_104 : decode cX11_readEye 104 = .ok (.ifCond .ne 9, 3) := by decide +kernel
theorem dX11_readEye_107 : decode cX11_readEye 107 = .ok (.aload_n 0, 1) := by decide +kernel
theorem dX11_readEye_108 : decode cX11_readEye 108 = .ok (.iconst 1, 1) := by decide +kernel
theorem dX11_readEye_109 : decode cX11_readEye 109 = .ok (.invokevirtual 169, 3) := by decide +kernel
theorem dX11_readEye_112 : decode cX11_readEye 112 = .ok (.ireturn, 1) := by decide +kernel
theorem dX11_readEye_113 : decode cX11_readEye 113 = .ok (.aload_n 0, 1) := by decide +kernel
theorem dX11_readEye_114 : decode cX11_readEye 114 = .ok (.invokevirtual 179, 3) := by decide +kernel
theorem dX11_readEye_117 : decode cX11_readEye 117 = .ok (.aload_n 0, 1) := by decide +kernel
theorem dX11_readEye_118 : decode cX11_readEye 118 = .ok (.iconst 0, 1) := by decide +kernel
theorem dX11_readEye_119 : decode cX11_readEye 119 = .ok (.bipush 9, 2) := by decide +kernel
theorem dX11_readEye_121 : decode cX11_readEye 121 = .ok (.invokevirtual 196, 3) := by decide +kernel
theorem dX11_readEye_124 : decode cX11_readEye 124 = .ok (.ifCond .ne 5, 3) := by decide +kernel
theorem dX11_readEye_127 : decode cX11_readEye 127 = .ok (.iconst 0, 1) := by decide +kernel
theorem dX11_readEye_128 : decode cX11_readEye 128 = .ok (.ireturn, 1) := by decide +kernel
theorem dX11_readEye_129 : decode cX11_readEye 129 = .ok (.aload_n 0, 1) := by decide +kernel
theorem dX11_readEye_130 : decode cX11_readEye 130 = .ok (.getfield 40, 3) := by decide +kernel
theorem dX11_readEye_133 : decode cX11_readEye 133 = .ok (.bipush 9, 2) := by decide +kernel
theorem dX11_readEye_135 : decode cX11_readEye 135 = .ok (.iconst 2, 1) := by decide +kernel
theorem dX11_readEye_136 : decode cX11_readEye 136 = .ok (.iload_n 1, 1) := by decide +kernel
theorem dX11_readEye_137 : decode cX11_readEye 137 = .ok (.iadd, 1) := by decide +kernel
theorem dX11_readEye_138 : decode cX11_readEye 138 = .ok (.imul, 1) := by decide +kernel
theorem dX11_readEye_139 : decode cX11_readEye 139 = .ok (.iload_n 2, 1) := by decide +kernel
theorem dX11_readEye_140 : decode cX11_readEye 140 = .ok (.iadd, 1) := by decide +kernel
theorem dX11_readEye_141 : decode cX11_readEye 141 = .ok (.aload_n 0, 1) := by decide +kernel
theorem dX11_readEye_142 : decode cX11_readEye 142 = .ok (.getfield 176, 3) := by decide +kernel
theorem dX11_readEye_145 : decode cX11_readEye 145 = .ok (.iastore, 1) := by decide +kernel
theorem dX11_readEye_146 : decode cX11_readEye 146 = .ok (.iinc 2 1, 3) := by decide +kernel
theorem dX11_readEye_149 : decode cX11_readEye 149 = .ok (.goto (-63), 3) := by decide +kernel
theorem dX11_readEye_152 : decode cX11_readEye 152 = .ok (.aload_n 0, 1) := by decide +kernel
theorem dX11_readEye_153 : decode cX11_readEye 153 = .ok (.getfield 17, 3) := by decide +kernel
theorem dX11_readEye_156 : decode cX11_readEye 156 = .ok (.bipush 20, 2) := by decide +kernel
theorem dX11_readEye_158 : decode cX11_readEye 158 = .ok (.dup2, 1) := by decide +kernel
theorem dX11_readEye_159 : decode cX11_readEye 159 = .ok (.iaload, 1) := by decide +kernel
theorem dX11_readEye_160 : decode cX11_readEye 160 = .ok (.iconst 1, 1) := by decide +kernel
theorem dX11_readEye_161 : decode cX11_readEye 161 = .ok (.iadd, 1) := by decide +kernel
theorem dX11_readEye_162 : decode cX11_readEye 162 = .ok (.iastore, 1) := by decide +kernel
theorem dX11_readEye_163 : decode cX11_readEye 163 = .ok (.iconst 1, 1) := by decide +kernel
theorem dX11_readEye_164 : decode cX11_readEye 164 = .ok (.ireturn, 1) := by decide +kernel
theorem dX11_readMended_0 : decode cX11_readMended 0 = .ok (.aload_n 0, 1) := by decide +kernel
theorem dX11_readMended_1 : decode cX11_readMended 1 = .ok (.getfield 17, 3) := by decide +kernel
theorem dX11_readMended_4 : decode cX11_readMended 4 = .ok (.bipush 21, 2) := by decide +kernel
theorem dX11_readMended_6 : decode cX11_readMended 6 = .ok (.iaload, 1) := by decide +kernel
theorem dX11_readMended_7 : decode cX11_readMended 7 = .ok (.istore_n 1, 1) := by decide +kernel
theorem dX11_readMended_8 : decode cX11_readMended 8 = .ok (.iload_n 1, 1) := by decide +kernel
theorem dX11_readMended_9 : decode cX11_readMended 9 = .ok (.iconst 3, 1) := by decide +kernel
theorem dX11_readMended_10 : decode cX11_readMended 10 = .ok (.if_icmp .ne 9, 3) := by decide +kernel
theorem dX11_readMended_13 : decode cX11_readMended 13 = .ok (.aload_n 0, 1) := by decide +kernel
theorem dX11_readMended_14 : decode cX11_readMended 14 = .ok (.iconst 4, 1) := by decide +kernel
theorem dX11_readMended_15 : decode cX11_readMended 15 = .ok (.invokevirtual 169, 3) := by decide +kernel
theorem dX11_readMended_18 : decode cX11_readMended 18 = .ok (.ireturn, 1) := by decide +kernel
theorem dX11_readMended_19 : decode cX11_readMended 19 = .ok (.aload_n 0, 1) := by decide +kernel
theorem dX11_readMended_20 : decode cX11_readMended 20 = .ok (.invokevirtual 179, 3) := by decide +kernel
theorem dX11_readMended_23 : decode cX11_readMended 23 = .ok (.aload_n 0, 1) := by decide +kernel
theorem dX11_readMended_24 : decode cX11_readMended 24 = .ok (.iload_n 1, 1) := by decide +kernel
theorem dX11_readMended_25 : decode cX11_readMended 25 = .ok (.ifCond .ne 7, 3) := by decide +kernel
theorem dX11_readMended_28 : decode cX11_readMended 28 = .ok (.iconst 1, 1) := by decide +kernel
theorem dX11_readMended_29 : decode cX11_readMended 29 = .ok (.goto 16, 3) := by decide +kernel
theorem dX11_readMended_32 : decode cX11_readMended 32 = .ok (.aload_n 0, 1) := by decide +kernel
theorem dX11_readMended_33 : decode cX11_readMended 33 = .ok (.getfield 17, 3) := by decide +kernel
theorem dX11_readMended_36 : decode cX11_readMended 36 = .ok (.bipush 25, 2) := by decide +kernel
theorem dX11_readMended_38 : decode cX11_readMended 38 = .ok (.iload_n 1, 1) := by decide +kernel
theorem dX11_readMended_39 : decode cX11_readMended 39 = .ok (.iadd, 1) := by decide +kernel
theorem dX11_readMended_40 : decode cX11_readMended 40 = .ok (.iconst 1, 1) := by decide +kernel
theorem dX11_readMended_41 : decode cX11_readMended 41 = .ok (.isub, 1) := by decide +kernel
theorem dX11_readMended_42 : decode cX11_readMended 42 = .ok (.iaload, 1) := by decide +kernel
theorem dX11_readMended_43 : decode cX11_readMended 43 = .ok (.iconst 1, 1) := by decide +kernel
theorem dX11_readMended_44 : decode cX11_readMended 44 = .ok (.iadd, 1) := by decide +kernel
theorem dX11_readMended_45 : decode cX11_readMended 45 = .ok (.sipush 999, 3) := by decide +kernel
theorem dX11_readMended_48 : decode cX11_readMended 48 = .ok (.invokevirtual 196, 3) := by decide +kernel
theorem dX11_readMended_51 : decode cX11_readMended 51 = .ok (.ifCond .ne 5, 3) := by decide +kernel
theorem dX11_readMended_54 : decode cX11_readMended 54 = .ok (.iconst 0, 1) := by decide +kernel
theorem dX11_readMended_55 : decode cX11_readMended 55 = .ok (.ireturn, 1) := by decide +kernel
theorem dX11_readMended_56 : decode cX11_readMended 56 = .ok (.aload_n 0, 1) := by decide +kernel
theorem dX11_readMended_57 : decode cX11_readMended 57 = .ok (.getfield 17, 3) := by decide +kernel
theorem dX11_readMended_60 : decode cX11_readMended 60 = .ok (.bipush 25, 2) := by decide +kernel
theorem dX11_readMended_62 : decode cX11_readMended 62 = .ok (.iload_n 1, 1) := by decide +kernel
theorem dX11_readMended_63 : decode cX11_readMended 63 = .ok (.iadd, 1) := by decide +kernel
theorem dX11_readMended_64 : decode cX11_readMended 64 = .ok (.aload_n 0, 1) := by decide +kernel
theorem dX11_readMended_65 : decode cX11_readMended 65 = .ok (.getfield 176, 3) := by decide +kernel
theorem dX11_readMended_68 : decode cX11_readMended 68 = .ok (.iastore, 1) := by decide +kernel
theorem dX11_readMended_69 : decode cX11_readMended 69 = .ok (.aload_n 0, 1) := by decide +kernel
theorem dX11_readMended_70 : decode cX11_readMended 70 = .ok (.getfield 17, 3) := by decide +kernel
theorem dX11_readMended_73 : decode cX11_readMended 73 = .ok (.bipush 21, 2) := by decide +kernel
theorem dX11_readMended_75 : decode cX11_readMended 75 = .ok (.dup2, 1) := by decide +kernel
theorem dX11_readMended_76 : decode cX11_readMended 76 = .ok (.iaload, 1) := by decide +kernel
theorem dX11_readMended_77 : decode cX11_readMended 77 = .ok (.iconst 1, 1) := by decide +kernel
theorem dX11_readMended_78 : decode cX11_readMended 78 = .ok (.iadd, 1) := by decide +kernel
theorem dX11_readMended_79 : decode cX11_readMended 79 = .ok (.iastore, 1) := by decide +kernel
theorem dX11_readMended_80 : decode cX11_readMended 80 = .ok (.iconst 1, 1) := by decide +kernel
theorem dX11_readMended_81 : decode cX11_readMended 81 = .ok (.ireturn, 1) := by decide +kernel
theorem dX11_readStory_0 : decode cX11_readStory 0 = .ok (.aload_n 0, 1) := by decide +kernel
theorem dX11_readStory_1 : decode cX11_readStory 1 = .ok (.getfield 17, 3) := by decide +kernel
theorem dX11_readStory_4 : decode cX11_readStory 4 = .ok (.bipush 19, 2) := by decide +kernel
theorem dX11_readStory_6 : decode cX11_readStory 6 = .ok (.iaload, 1) := by decide +kernel
theorem dX11_readStory_7 : decode cX11_readStory 7 = .ok (.istore_n 1, 1) := by decide +kernel
theorem dX11_readStory_8 : decode cX11_readStory 8 = .ok (.iload_n 1, 1) := by decide +kernel
theorem dX11_readStory_9 : decode cX11_readStory 9 = .ok (.iconst 4, 1) := by decide +kernel
theorem dX11_readStory_10 : decode cX11_readStory 10 = .ok (.if_icmp .ne 9, 3) := by decide +kernel
theorem dX11_readStory_13 : decode cX11_readStory 13 = .ok (.aload_n 0, 1) := by decide +kernel
theorem dX11_readStory_14 : decode cX11_readStory 14 = .ok (.iconst 4, 1) := by decide +kernel
theorem dX11_readStory_15 : decode cX11_readStory 15 = .ok (.invokevirtual 169, 3) := by decide +kernel
theorem dX11_readStory_18 : decode cX11_readStory 18 = .ok (.ireturn, 1) := by decide +kernel
theorem dX11_readStory_19 : decode cX11_readStory 19 = .ok (.aload_n 0, 1) := by decide +kernel
theorem dX11_readStory_20 : decode cX11_readStory 20 = .ok (.invokevirtual 179, 3) := by decide +kernel
theorem dX11_readStory_23 : decode cX11_readStory 23 = .ok (.aload_n 0, 1) := by decide +kernel
theorem dX11_readStory_24 : decode cX11_readStory 24 = .ok (.getfield 141, 3) := by decide +kernel
theorem dX11_readStory_27 : decode cX11_readStory 27 = .ok (.iconst 1, 1) := by decide +kernel
theorem dX11_readStory_28 : decode cX11_readStory 28 = .ok (.if_icmp .eq 9, 3) := by decide +kernel
theorem dX11_readStory_31 : decode cX11_readStory 31 = .ok (.aload_n 0, 1) := by decide +kernel
theorem dX11_readStory_32 : decode cX11_readStory 32 = .ok (.iconst 1, 1) := by decide +kernel
theorem dX11_readStory_33 : decode cX11_readStory 33 = .ok (.invokevirtual 169, 3) := by decide +kernel
theorem dX11_readStory_36 : decode cX11_readStory 36 = .ok (.ireturn, 1) := by decide +kernel
theorem dX11_readStory_37 : decode cX11_readStory 37 = .ok (.iconst 0, 1) := by decide +kernel
theorem dX11_readStory_38 : decode cX11_readStory 38 = .ok (.istore_n 2, 1) := by decide +kernel
theorem dX11_readStory_39 : decode cX11_readStory 39 = .ok (.iload_n 2, 1) := by decide +kernel
theorem dX11_readStory_40 : decode cX11_readStory 40 = .ok (.iload_n 1, 1) := by decide +kernel
theorem dX11_readStory_41 : decode cX11_readStory 41 = .ok (.if_icmp .ge 29, 3) := by decide +kernel
theorem dX11_readStory_44 : decode cX11_readStory 44 = .ok (.aload_n 0, 1) := by decide +kernel
theorem dX11_readStory_45 : decode cX11_readStory 45 = .ok (.getfield 25, 3) := by decide +kernel
theorem dX11_readStory_48 : decode cX11_readStory 48 = .ok (.iload_n 2, 1) := by decide +kernel
theorem dX11_readStory_49 : decode cX11_readStory 49 = .ok (.laload, 1) := by decide +kernel
theorem dX11_readStory_50 : decode cX11_readStory 50 = .ok (.aload_n 0, 1) := by decide +kernel
theorem dX11_readStory_51 : decode cX11_readStory 51 = .ok (.getfield 148, 3) := by decide +kernel
theorem dX11_readStory_54 : decode cX11_readStory 54 = .ok (.lcmp, 1) := by decide +kernel
theorem dX11_readStory_55 : decode cX11_readStory 55 = .ok (.ifCond .ne 9, 3) := by decide +kernel
theorem dX11_readStory_58 : decode cX11_readStory 58 = .ok (.aload_n 0, 1) := by decide +kernel
theorem dX11_readStory_59 : decode cX11_readStory 59 = .ok (.iconst 3, 1) := by decide +kernel
theorem dX11_readStory_60 : decode cX11_readStory 60 = .ok (.invokevirtual 169, 3) := by decide +kernel
theorem dX11_readStory_63 : decode cX11_readStory 63 = .ok (.ireturn, 1) := by decide +kernel
theorem dX11_readStory_64 : decode cX11_readStory 64 = .ok (.iinc 2 1, 3) := by decide +kernel
theorem dX11_readStory_67 : decode cX11_readStory 67 = .ok (.goto (-28), 3) := by decide +kernel
theorem dX11_readStory_70 : decode cX11_readStory 70 = .ok (.aload_n 0, 1) := by decide +kernel
theorem dX11_readStory_71 : decode cX11_readStory 71 = .ok (.getfield 25, 3) := by decide +kernel
theorem dX11_readStory_74 : decode cX11_readStory 74 = .ok (.iload_n 1, 1) := by decide +kernel
theorem dX11_readStory_75 : decode cX11_readStory 75 = .ok (.aload_n 0, 1) := by decide +kernel
theorem dX11_readStory_76 : decode cX11_readStory 76 = .ok (.getfield 148, 3) := by decide +kernel
theorem dX11_readStory_79 : decode cX11_readStory 79 = .ok (.lastore, 1) := by decide +kernel
theorem dX11_readStory_80 : decode cX11_readStory 80 = .ok (.aload_n 0, 1) := by decide +kernel
theorem dX11_readStory_81 : decode cX11_readStory 81 = .ok (.invokevirtual 179, 3) := by decide +kernel
theorem dX11_readStory_84 : decode cX11_readStory 84 = .ok (.iconst 0, 1) := by decide +kernel
theorem dX11_readStory_85 : decode cX11_readStory 85 = .ok (.istore_n 2, 1) := by decide +kernel
theorem dX11_readStory_86 : decode cX11_readStory 86 = .ok (.iload_n 2, 1) := by decide +kernel
theorem dX11_readStory_87 : decode cX11_readStory 87 = .ok (.ifCond .eq 12, 3) := by decide +kernel
theorem dX11_readStory_90 : decode cX11_readStory 90 = .ok (.aload_n 0, 1) := by decide +kernel
theorem dX11_readStory_91 : decode cX11_readStory 91 = .ok (.bipush 8, 2) := by decide +kernel
theorem dX11_readStory_93 : decode cX11_readStory 93 = .ok (.invokevirtual 200, 3) := by decide +kernel
theorem dX11_readStory_96 : decode cX11_readStory 96 = .ok (.ifCond .eq 122, 3) := by decide +kernel
theorem dX11_readStory_99 : decode cX11_readStory 99 = .ok (.aload_n 0, 1) := by decide +kernel
theorem dX11_readStory_100 : decode cX11_readStory 100 = .ok (.bipush 8, 2) := by decide +kernel
theorem dX11_readStory_102 : decode cX11_readStory 102 = .ok (.invokevirtual 200, 3) := by decide +kernel
theorem dX11_readStory_105 : decode cX11_readStory 105 = .ok (.ifCond .ne 9, 3) := by decide +kernel
theorem dX11_readStory_108 : decode cX11_readStory 108 = .ok (.aload_n 0, 1) := by decide +kernel
theorem dX11_readStory_109 : decode cX11_readStory 109 = .ok (.iconst 1, 1) := by decide +kernel
theorem dX11_readStory_110 : decode cX11_readStory 110 = .ok (.invokevirtual 169, 3) := by decide +kernel
theorem dX11_readStory_113 : decode cX11_readStory 113 = .ok (.ireturn, 1) := by decide +kernel
theorem dX11_readStory_114 : decode cX11_readStory 114 = .ok (.iload_n 2, 1) := by decide +kernel
theorem dX11_readStory_115 : decode cX11_readStory 115 = .ok (.bipush 6, 2) := by decide +kernel
theorem dX11_readStory_117 : decode cX11_readStory 117 = .ok (.if_icmp .ne 9, 3) := by decide +kernel
theorem dX11_readStory_120 : decode cX11_readStory 120 = .ok (.aload_n 0, 1) := by decide +kernel
theorem dX11_readStory_121 : decode cX11_readStory 121 = .ok (.iconst 4, 1) := by decide +kernel
theorem dX11_readStory_122 : decode cX11_readStory 122 = .ok (.invokevirtual 169, 3) := by decide +kernel
theorem dX11_readStory_125 : decode cX11_readStory 125 = .ok (.ireturn, 1) := by decide +kernel
theorem dX11_readStory_126 : decode cX11_readStory 126 = .ok (.aload_n 0, 1) := by decide +kernel
theorem dX11_readStory_127 : decode cX11_readStory 127 = .ok (.invokevirtual 179, 3) := by decide +kernel
theorem dX11_readStory_130 : decode cX11_readStory 130 = .ok (.iconst 0, 1) := by decide +kernel
theorem dX11_readStory_131 : decode cX11_readStory 131 = .ok (.istore_n 3, 1) := by decide +kernel
theorem dX11_readStory_132 : decode cX11_readStory 132 = .ok (.iload_n 3, 1) := by decide +kernel
theorem dX11_readStory_133 : decode cX11_readStory 133 = .ok (.iconst 4, 1) := by decide +kernel
theorem dX11_readStory_134 : decode cX11_readStory 134 = .ok (.if_icmp .ge 78, 3) := by decide +kernel
theorem dX11_readStory_137 : decode cX11_readStory 137 = .ok (.iload_n 3, 1) := by decide +kernel
theorem dX11_readStory_138 : decode cX11_readStory 138 = .ok (.ifCond .ne 17, 3) := by decide +kernel
theorem dX11_readStory_141 : decode cX11_readStory 141 = .ok (.aload_n 0, 1) := by decide +kernel
theorem dX11_readStory_142 : decode cX11_readStory 142 = .ok (.iconst 1, 1) := by decide +kernel
theorem dX11_readStory_143 : decode cX11_readStory 143 = .ok (.sipush 400, 3) := by decide +kernel
theorem dX11_readStory_146 : decode cX11_readStory 146 = .ok (.invokevirtual 196, 3) := by decide +kernel
theorem dX11_readStory_149 : decode cX11_readStory 149 = .ok (.ifCond .eq 34, 3) := by decide +kernel
theorem dX11_readStory_152 : decode cX11_readStory 152 = .ok (.goto 33, 3) := by decide +kernel
theorem dX11_readStory_155 : decode cX11_readStory 155 = .ok (.iload_n 3, 1) := by decide +kernel
theorem dX11_readStory_156 : decode cX11_readStory 156 = .ok (.iconst 3, 1) := by decide +kernel
theorem dX11_readStory_157 : decode cX11_readStory 157 = .ok (.if_icmp .ne 16, 3) := by decide +kernel
theorem dX11_readStory_160 : decode cX11_readStory 160 = .ok (.aload_n 0, 1) := by decide +kernel
theorem dX11_readStory_161 : decode cX11_readStory 161 = .ok (.iconst 0, 1) := by decide +kernel
theorem dX11_readStory_162 : decode cX11_readStory 162 = .ok (.bipush 100, 2) := by decide +kernel
theorem dX11_readStory_164 : decode cX11_readStory 164 = .ok (.invokevirtual 196, 3) := by decide +kernel
theorem dX11_readStory_167 : decode cX11_readStory 167 = .ok (.ifCond .eq 16, 3) := by decide +kernel
theorem dX11_readStory_170 : decode cX11_readStory 170 = .ok (.goto 15, 3) := by decide +kernel
theorem dX11_readStory_173 : decode cX11_readStory 173 = .ok (.aload_n 0, 1) := by decide +kernel
theorem dX11_readStory_174 : decode cX11_readStory 174 = .ok (.iconst 0, 1) := by decide +kernel
theorem dX11_readStory_175 : decode cX11_readStory 175 = .ok (.bipush 99, 2) := by decide +kernel
theorem dX11_readStory_177 : decode cX11_readStory 177 = .ok (.invokevirtual 196, 3) := by decide +kernel
theorem dX11_readStory_180 : decode cX11_readStory 180 = .ok (.ifCond .ne 5, 3) := by decide +kernel
theorem dX11_readStory_183 : decode cX11_readStory 183 = .ok (.iconst 0, 1) := by decide +kernel
theorem dX11_readStory_184 : decode cX11_readStory 184 = .ok (.ireturn, 1) := by decide +kernel
theorem dX11_readStory_185 : decode cX11_readStory 185 = .ok (.aload_n 0, 1) := by decide +kernel
theorem dX11_readStory_186 : decode cX11_readStory 186 = .ok (.getfield 37, 3) := by decide +kernel
theorem dX11_readStory_189 : decode cX11_readStory 189 = .ok (.iconst 4, 1) := by decide +kernel
theorem dX11_readStory_190 : decode cX11_readStory 190 = .ok (.bipush 6, 2) := by decide +kernel
theorem dX11_readStory_192 : decode cX11_readStory 192 = .ok (.iconst 4, 1) := by decide +kernel
theorem dX11_readStory_193 : decode cX11_readStory 193 = .ok (.iload_n 1, 1) := by decide +kernel
theorem dX11_readStory_194 : decode cX11_readStory 194 = .ok (.iadd, 1) := by decide +kernel
theorem dX11_readStory_195 : decode cX11_readStory 195 = .ok (.imul, 1) := by decide +kernel
theorem dX11_readStory_196 : decode cX11_readStory 196 = .ok (.iload_n 2, 1) := by decide +kernel
theorem dX11_readStory_197 : decode cX11_readStory 197 = .ok (.iadd, 1) := by decide +kernel
theorem dX11_readStory_198 : decode cX11_readStory 198 = .ok (.imul, 1) := by decide +kernel
theorem dX11_readStory_199 : decode cX11_readStory 199 = .ok (.iload_n 3, 1) := by decide +kernel
theorem dX11_readStory_200 : decode cX11_readStory 200 = .ok (.iadd, 1) := by decide +kernel
theorem dX11_readStory_201 : decode cX11_readStory 201 = .ok (.aload_n 0, 1) := by decide +kernel
theorem dX11_readStory_202 : decode cX11_readStory 202 = .ok (.getfield 176, 3) := by decide +kernel
theorem dX11_readStory_205 : decode cX11_readStory 205 = .ok (.iastore, 1) := by decide +kernel
theorem dX11_readStory_206 : decode cX11_readStory 206 = .ok (.iinc 3 1, 3) := by decide +kernel
theorem dX11_readStory_209 : decode cX11_readStory 209 = .ok (.goto (-77), 3) := by decide +kernel
theorem dX11_readStory_212 : decode cX11_readStory 212 = .ok (.iinc 2 1, 3) := by decide +kernel
theorem dX11_readStory_215 : decode cX11_readStory 215 = .ok (.goto (-129), 3) := by decide +kernel
theorem dX11_readStory_218 : decode cX11_readStory 218 = .ok (.aload_n 0, 1) := by decide +kernel
theorem dX11_readStory_219 : decode cX11_readStory 219 = .ok (.getfield 34, 3) := by decide +kernel
theorem dX11_readStory_222 : decode cX11_readStory 222 = .ok (.iconst 4, 1) := by decide +kernel
theorem dX11_readStory_223 : decode cX11_readStory 223 = .ok (.iload_n 1, 1) := by decide +kernel
theorem dX11_readStory_224 : decode cX11_readStory 224 = .ok (.iadd, 1) := by decide +kernel
theorem dX11_readStory_225 : decode cX11_readStory 225 = .ok (.iload_n 2, 1) := by decide +kernel
theorem dX11_readStory_226 : decode cX11_readStory 226 = .ok (.iastore, 1) := by decide +kernel
theorem dX11_readStory_227 : decode cX11_readStory 227 = .ok (.aload_n 0, 1) := by decide +kernel
theorem dX11_readStory_228 : decode cX11_readStory 228 = .ok (.getfield 17, 3) := by decide +kernel
theorem dX11_readStory_231 : decode cX11_readStory 231 = .ok (.bipush 19, 2) := by decide +kernel
theorem dX11_readStory_233 : decode cX11_readStory 233 = .ok (.dup2, 1) := by decide +kernel
theorem dX11_readStory_234 : decode cX11_readStory 234 = .ok (.iaload, 1) := by decide +kernel
theorem dX11_readStory_235 : decode cX11_readStory 235 = .ok (.iconst 1, 1) := by decide +kernel
theorem dX11_readStory_236 : decode cX11_readStory 236 = .ok (.iadd, 1) := by decide +kernel
theorem dX11_readStory_237 : decode cX11_readStory 237 = .ok (.iastore, 1) := by decide +kernel
theorem dX11_readStory_238 : decode cX11_readStory 238 = .ok (.iconst 1, 1) := by decide +kernel
theorem dX11_readStory_239 : decode cX11_readStory 239 = .ok (.ireturn, 1) := by decide +kernel
theorem dX11_readStuff_0 : decode cX11_readStuff 0 = .ok (.aload_n 0, 1) := by decide +kernel
theorem dX11_readStuff_1 : decode cX11_readStuff 1 = .ok (.getfield 17, 3) := by decide +kernel
theorem dX11_readStuff_4 : decode cX11_readStuff 4 = .ok (.bipush 18, 2) := by decide +kernel
theorem dX11_readStuff_6 : decode cX11_readStuff 6 = .ok (.iaload, 1) := by decide +kernel
theorem dX11_readStuff_7 : decode cX11_readStuff 7 = .ok (.istore_n 1, 1) := by decide +kernel
theorem dX11_readStuff_8 : decode cX11_readStuff 8 = .ok (.iload_n 1, 1) := by decide +kernel
theorem dX11_readStuff_9 : decode cX11_readStuff 9 = .ok (.iconst 5, 1) := by decide +kernel
theorem dX11_readStuff_10 : decode cX11_readStuff 10 = .ok (.if_icmp .ne 9, 3) := by decide +kernel
theorem dX11_readStuff_13 : decode cX11_readStuff 13 = .ok (.aload_n 0, 1) := by decide +kernel
theorem dX11_readStuff_14 : decode cX11_readStuff 14 = .ok (.iconst 4, 1) := by decide +kernel
theorem dX11_readStuff_15 : decode cX11_readStuff 15 = .ok (.invokevirtual 169, 3) := by decide +kernel
theorem dX11_readStuff_18 : decode cX11_readStuff 18 = .ok (.ireturn, 1) := by decide +kernel
theorem dX11_readStuff_19 : decode cX11_readStuff 19 = .ok (.aload_n 0, 1) := by decide +kernel
theorem dX11_readStuff_20 : decode cX11_readStuff 20 = .ok (.invokevirtual 179, 3) := by decide +kernel
theorem dX11_readStuff_23 : decode cX11_readStuff 23 = .ok (.aload_n 0, 1) := by decide +kernel
theorem dX11_readStuff_24 : decode cX11_readStuff 24 = .ok (.getfield 141, 3) := by decide +kernel
theorem dX11_readStuff_27 : decode cX11_readStuff 27 = .ok (.iconst 1, 1) := by decide +kernel
theorem dX11_readStuff_28 : decode cX11_readStuff 28 = .ok (.if_icmp .eq 9, 3) := by decide +kernel
theorem dX11_readStuff_31 : decode cX11_readStuff 31 = .ok (.aload_n 0, 1) := by decide +kernel
theorem dX11_readStuff_32 : decode cX11_readStuff 32 = .ok (.iconst 1, 1) := by decide +kernel
theorem dX11_readStuff_33 : decode cX11_readStuff 33 = .ok (.invokevirtual 169, 3) := by decide +kernel
theorem dX11_readStuff_36 : decode cX11_readStuff 36 = .ok (.ireturn, 1) := by decide +kernel
theorem dX11_readStuff_37 : decode cX11_readStuff 37 = .ok (.iconst 0, 1) := by decide +kernel
theorem dX11_readStuff_38 : decode cX11_readStuff 38 = .ok (.istore_n 2, 1) := by decide +kernel
theorem dX11_readStuff_39 : decode cX11_readStuff 39 = .ok (.iload_n 2, 1) := by decide +kernel
theorem dX11_readStuff_40 : decode cX11_readStuff 40 = .ok (.iload_n 1, 1) := by decide +kernel
theorem dX11_readStuff_41 : decode cX11_readStuff 41 = .ok (.if_icmp .ge 29, 3) := by decide +kernel
theorem dX11_readStuff_44 : decode cX11_readStuff 44 = .ok (.aload_n 0, 1) := by decide +kernel
theorem dX11_readStuff_45 : decode cX11_readStuff 45 = .ok (.getfield 21, 3) := by decide +kernel
theorem dX11_readStuff_48 : decode cX11_readStuff 48 = .ok (.iload_n 2, 1) := by decide +kernel
theorem dX11_readStuff_49 : decode cX11_readStuff 49 = .ok (.laload, 1) := by decide +kernel
theorem dX11_readStuff_50 : decode cX11_readStuff 50 = .ok (.aload_n 0, 1) := by decide +kernel
theorem dX11_readStuff_51 : decode cX11_readStuff 51 = .ok (.getfield 148, 3) := by decide +kernel
theorem dX11_readStuff_54 : decode cX11_readStuff 54 = .ok (.lcmp, 1) := by decide +kernel
theorem dX11_readStuff_55 : decode cX11_readStuff 55 = .ok (.ifCond .ne 9, 3) := by decide +kernel
theorem dX11_readStuff_58 : decode cX11_readStuff 58 = .ok (.aload_n 0, 1) := by decide +kernel
theorem dX11_readStuff_59 : decode cX11_readStuff 59 = .ok (.iconst 3, 1) := by decide +kernel
theorem dX11_readStuff_60 : decode cX11_readStuff 60 = .ok (.invokevirtual 169, 3) := by decide +kernel
theorem dX11_readStuff_63 : decode cX11_readStuff 63 = .ok (.ireturn, 1) := by decide +kernel
theorem dX11_readStuff_64 : decode cX11_readStuff 64 = .ok (.iinc 2 1, 3) := by decide +kernel
theorem dX11_readStuff_67 : decode cX11_readStuff 67 = .ok (.goto (-28), 3) := by decide +kernel
theorem dX11_readStuff_70 : decode cX11_readStuff 70 = .ok (.aload_n 0, 1) := by decide +kernel
theorem dX11_readStuff_71 : decode cX11_readStuff 71 = .ok (.getfield 21, 3) := by decide +kernel
theorem dX11_readStuff_74 : decode cX11_readStuff 74 = .ok (.iload_n 1, 1) := by decide +kernel
theorem dX11_readStuff_75 : decode cX11_readStuff 75 = .ok (.aload_n 0, 1) := by decide +kernel
theorem dX11_readStuff_76 : decode cX11_readStuff 76 = .ok (.getfield 148, 3) := by decide +kernel
theorem dX11_readStuff_79 : decode cX11_readStuff 79 = .ok (.lastore, 1) := by decide +kernel
theorem dX11_readStuff_80 : decode cX11_readStuff 80 = .ok (.aload_n 0, 1) := by decide +kernel
theorem dX11_readStuff_81 : decode cX11_readStuff 81 = .ok (.invokevirtual 179, 3) := by decide +kernel
theorem dX11_readStuff_84 : decode cX11_readStuff 84 = .ok (.iconst 0, 1) := by decide +kernel
theorem dX11_readStuff_85 : decode cX11_readStuff 85 = .ok (.istore_n 2, 1) := by decide +kernel
theorem dX11_readStuff_86 : decode cX11_readStuff 86 = .ok (.iload_n 2, 1) := by decide +kernel
theorem dX11_readStuff_87 : decode cX11_readStuff 87 = .ok (.bipush 6, 2) := by decide +kernel
theorem dX11_readStuff_89 : decode cX11_readStuff 89 = .ok (.if_icmp .ge 95, 3) := by decide +kernel
theorem dX11_readStuff_92 : decode cX11_readStuff 92 = .ok (.iload_n 2, 1) := by decide +kernel
theorem dX11_readStuff_93 : decode cX11_readStuff 93 = .ok (.iconst 3, 1) := by decide +kernel
theorem dX11_readStuff_94 : decode cX11_readStuff 94 = .ok (.if_icmp .ge 16, 3) := by decide +kernel
theorem dX11_readStuff_97 : decode cX11_readStuff 97 = .ok (.aload_n 0, 1) := by decide +kernel
theorem dX11_readStuff_98 : decode cX11_readStuff 98 = .ok (.iconst 0, 1) := by decide +kernel
theorem dX11_readStuff_99 : decode cX11_readStuff 99 = .ok (.bipush 99, 2) := by decide +kernel
theorem dX11_readStuff_101 : decode cX11_readStuff 101 = .ok (.invokevirtual 196, 3) := by decide +kernel
theorem dX11_readStuff_104 : decode cX11_readStuff 104 = .ok (.ifCond .eq 55, 3) := by decide +kernel
theorem dX11_readStuff_107 : decode cX11_readStuff 107 = .ok (.goto 54, 3) := by decide +kernel
theorem dX11_readStuff_110 : decode cX11_readStuff 110 = .ok (.iload_n 2, 1) := by decide +kernel
theorem dX11_readStuff_111 : decode cX11_readStuff 111 = .ok (.iconst 3, 1) := by decide +kernel
theorem dX11_readStuff_112 : decode cX11_readStuff 112 = .ok (.if_icmp .ne 17, 3) := by decide +kernel
theorem dX11_readStuff_115 : decode cX11_readStuff 115 = .ok (.aload_n 0, 1) := by decide +kernel
theorem dX11_readStuff_116 : decode cX11_readStuff 116 = .ok (.iconst 0, 1) := by decide +kernel
theorem dX11_readStuff_117 : decode cX11_readStuff 117 = .ok (.sipush 1000, 3) := by decide +kernel
theorem dX11_readStuff_120 : decode cX11_readStuff 120 = .ok (.invokevirtual 196, 3) := by decide +kernel
theorem dX11_readStuff_123 : decode cX11_readStuff 123 = .ok (.ifCond .eq 36, 3) := by decide +kernel
theorem dX11_readStuff_126 : decode cX11_readStuff 126 = .ok (.goto 35, 3) := by decide +kernel
theorem dX11_readStuff_129 : decode cX11_readStuff 129 = .ok (.iload_n 2, 1) := by decide +kernel
theorem dX11_readStuff_130 : decode cX11_readStuff 130 = .ok (.iconst 4, 1) := by decide +kernel
theorem dX11_readStuff_131 : decode cX11_readStuff 131 = .ok (.if_icmp .ne 17, 3) := by decide +kernel
theorem dX11_readStuff_134 : decode cX11_readStuff 134 = .ok (.aload_n 0, 1) := by decide +kernel
theorem dX11_readStuff_135 : decode cX11_readStuff 135 = .ok (.iconst 1, 1) := by decide +kernel
theorem dX11_readStuff_136 : decode cX11_readStuff 136 = .ok (.sipush 999, 3) := by decide +kernel
theorem dX11_readStuff_139 : decode cX11_readStuff 139 = .ok (.invokevirtual 196, 3) := by decide +kernel
theorem dX11_readStuff_142 : decode cX11_readStuff 142 = .ok (.ifCond .eq 17, 3) := by decide +kernel
theorem dX11_readStuff_145 : decode cX11_readStuff 145 = .ok (.goto 16, 3) := by decide +kernel
theorem dX11_readStuff_148 : decode cX11_readStuff 148 = .ok (.aload_n 0, 1) := by decide +kernel
theorem dX11_readStuff_149 : decode cX11_readStuff 149 = .ok (.iconst 1, 1) := by decide +kernel
theorem dX11_readStuff_150 : decode cX11_readStuff 150 = .ok (.sipush 9999, 3) := by decide +kernel
theorem dX11_readStuff_153 : decode cX11_readStuff 153 = .ok (.invokevirtual 196, 3) := by decide +kernel
theorem dX11_readStuff_156 : decode cX11_readStuff 156 = .ok (.ifCond .ne 5, 3) := by decide +kernel
theorem dX11_readStuff_159 : decode cX11_readStuff 159 = .ok (.iconst 0, 1) := by decide +kernel
theorem dX11_readStuff_160 : decode cX11_readStuff 160 = .ok (.ireturn, 1) := by decide +kernel
theorem dX11_readStuff_161 : decode cX11_readStuff 161 = .ok (.aload_n 0, 1) := by decide +kernel
theorem dX11_readStuff_162 : decode cX11_readStuff 162 = .ok (.getfield 31, 3) := by decide +kernel
theorem dX11_readStuff_165 : decode cX11_readStuff 165 = .ok (.bipush 6, 2) := by decide +kernel
theorem dX11_readStuff_167 : decode cX11_readStuff 167 = .ok (.iconst 5, 1) := by decide +kernel
theorem dX11_readStuff_168 : decode cX11_readStuff 168 = .ok (.iload_n 1, 1) := by decide +kernel
theorem dX11_readStuff_169 : decode cX11_readStuff 169 = .ok (.iadd, 1) := by decide +kernel
theorem dX11_readStuff_170 : decode cX11_readStuff 170 = .ok (.imul, 1) := by decide +kernel
theorem dX11_readStuff_171 : decode cX11_readStuff 171 = .ok (.iload_n 2, 1) := by decide +kernel
theorem dX11_readStuff_172 : decode cX11_readStuff 172 = .ok (.iadd, 1) := by decide +kernel
theorem dX11_readStuff_173 : decode cX11_readStuff 173 = .ok (.aload_n 0, 1) := by decide +kernel
theorem dX11_readStuff_174 : decode cX11_readStuff 174 = .ok (.getfield 176, 3) := by decide +kernel
theorem dX11_readStuff_177 : decode cX11_readStuff 177 = .ok (.iastore, 1) := by decide +kernel
theorem dX11_readStuff_178 : decode cX11_readStuff 178 = .ok (.iinc 2 1, 3) := by decide +kernel
theorem dX11_readStuff_181 : decode cX11_readStuff 181 = .ok (.goto (-95), 3) := by decide +kernel
theorem dX11_readStuff_184 : decode cX11_readStuff 184 = .ok (.aload_n 0, 1) := by decide +kernel
theorem dX11_readStuff_185 : decode cX11_readStuff 185 = .ok (.getfield 17, 3) := by decide +kernel
theorem dX11_readStuff_188 : decode cX11_readStuff 188 = .ok (.bipush 18, 2) := by decide +kernel
theorem dX11_readStuff_190 : decode cX11_readStuff 190 = .ok (.dup2, 1) := by decide +kernel
theorem dX11_readStuff_191 : decode cX11_readStuff 191 = .ok (.iaload, 1) := by decide +kernel
theorem dX11_readStuff_192 : decode cX11_readStuff 192 = .ok (.iconst 1, 1) := by decide +kernel
theorem dX11_readStuff_193 : decode cX11_readStuff 193 = .ok (.iadd, 1) := by decide +kernel
theorem dX11_readStuff_194 : decode cX11_readStuff 194 = .ok (.iastore, 1) := by decide +kernel
theorem dX11_readStuff_195 : decode cX11_readStuff 195 = .ok (.iconst 1, 1) := by decide +kernel
theorem dX11_readStuff_196 : decode cX11_readStuff 196 = .ok (.ireturn, 1) := by decide +kernel
theorem dX11_readClause_0 : decode cX11_readClause 0 = .ok (.aload_n 0, 1) := by decide +kernel
theorem dX11_readClause_1 : decode cX11_readClause 1 = .ok (.getfield 141, 3) := by decide +kernel
theorem dX11_readClause_4 : decode cX11_readClause 4 = .ok (.iconst 1, 1) := by decide +kernel
theorem dX11_readClause_5 : decode cX11_readClause 5 = .ok (.if_icmp .ne 10, 3) := by decide +kernel
theorem dX11_readClause_8 : decode cX11_readClause 8 = .ok (.aload_n 0, 1) := by decide +kernel
theorem dX11_readClause_9 : decode cX11_readClause 9 = .ok (.getfield 138, 3) := by decide +kernel
theorem dX11_readClause_12 : decode cX11_readClause 12 = .ok (.goto 4, 3) := by decide +kernel
theorem dX11_readClause_15 : decode cX11_readClause 15 = .ok (.iconst (-1), 1) := by decide +kernel
theorem dX11_readClause_16 : decode cX11_readClause 16 = .ok (.istore_n 1, 1) := by decide +kernel
theorem dX11_readClause_17 : decode cX11_readClause 17 = .ok (.iload_n 1, 1) := by decide +kernel
theorem dX11_readClause_18 : decode cX11_readClause 18 = .ok (.iconst 5, 1) := by decide +kernel
theorem dX11_readClause_19 : decode cX11_readClause 19 = .ok (.if_icmp .ne 8, 3) := by decide +kernel
theorem dX11_readClause_22 : decode cX11_readClause 22 = .ok (.aload_n 0, 1) := by decide +kernel
theorem dX11_readClause_23 : decode cX11_readClause 23 = .ok (.invokevirtual 203, 3) := by decide +kernel
theorem dX11_readClause_26 : decode cX11_readClause 26 = .ok (.ireturn, 1) := by decide +kernel
theorem dX11_readClause_27 : decode cX11_readClause 27 = .ok (.iload_n 1, 1) := by decide +kernel
theorem dX11_readClause_28 : decode cX11_readClause 28 = .ok (.bipush 6, 2) := by decide +kernel
theorem dX11_readClause_30 : decode cX11_readClause 30 = .ok (.if_icmp .ne 8, 3) := by decide +kernel
theorem dX11_readClause_33 : decode cX11_readClause 33 = .ok (.aload_n 0, 1) := by decide +kernel
theorem dX11_readClause_34 : decode cX11_readClause 34 = .ok (.invokevirtual 207, 3) := by decide +kernel
theorem dX11_readClause_37 : decode cX11_readClause 37 = .ok (.ireturn, 1) := by decide +kernel
theorem dX11_readClause_38 : decode cX11_readClause 38 = .ok (.iload_n 1, 1) := by decide +kernel
theorem dX11_readClause_39 : decode cX11_readClause 39 = .ok (.bipush 7, 2) := by decide +kernel
theorem dX11_readClause_41 : decode cX11_readClause 41 = .ok (.if_icmp .ne 8, 3) := by decide +kernel
theorem dX11_readClause_44 : decode cX11_readClause 44 = .ok (.aload_n 0, 1) := by decide +kernel
theorem dX11_readClause_45 : decode cX11_readClause 45 = .ok (.invokevirtual 210, 3) := by decide +kernel
theorem dX11_readClause_48 : decode cX11_readClause 48 = .ok (.ireturn, 1) := by decide +kernel
theorem dX11_readClause_49 : decode cX11_readClause 49 = .ok (.iload_n 1, 1) := by decide +kernel
theorem dX11_readClause_50 : decode cX11_readClause 50 = .ok (.iconst 2, 1) := by decide +kernel
theorem dX11_readClause_51 : decode cX11_readClause 51 = .ok (.if_icmp .ne 8, 3) := by decide +kernel
theorem dX11_readClause_54 : decode cX11_readClause 54 = .ok (.aload_n 0, 1) := by decide +kernel
theorem dX11_readClause_55 : decode cX11_readClause 55 = .ok (.invokevirtual 213, 3) := by decide +kernel
theorem dX11_readClause_58 : decode cX11_readClause 58 = .ok (.ireturn, 1) := by decide +kernel
theorem dX11_readClause_59 : decode cX11_readClause 59 = .ok (.iload_n 1, 1) := by decide +kernel
theorem dX11_readClause_60 : decode cX11_readClause 60 = .ok (.iconst 0, 1) := by decide +kernel
theorem dX11_readClause_61 : decode cX11_readClause 61 = .ok (.iconst 4, 1) := by decide +kernel
theorem dX11_readClause_62 : decode cX11_readClause 62 = .ok (.invokestatic 172, 3) := by decide +kernel
theorem dX11_readClause_65 : decode cX11_readClause 65 = .ok (.ifCond .ne 9, 3) := by decide +kernel
theorem dX11_readClause_68 : decode cX11_readClause 68 = .ok (.aload_n 0, 1) := by decide +kernel
theorem dX11_readClause_69 : decode cX11_readClause 69 = .ok (.iconst 1, 1) := by decide +kernel
theorem dX11_readClause_70 : decode cX11_readClause 70 = .ok (.invokevirtual 169, 3) := by decide +kernel
theorem dX11_readClause_73 : decode cX11_readClause 73 = .ok (.ireturn, 1) := by decide +kernel
theorem dX11_readClause_74 : decode cX11_readClause 74 = .ok (.aload_n 0, 1) := by decide +kernel
theorem dX11_readClause_75 : decode cX11_readClause 75 = .ok (.getfield 182, 3) := by decide +kernel
theorem dX11_readClause_78 : decode cX11_readClause 78 = .ok (.iload_n 1, 1) := by decide +kernel
theorem dX11_readClause_79 : decode cX11_readClause 79 = .ok (.ishr, 1) := by decide +kernel
theorem dX11_readClause_80 : decode cX11_readClause 80 = .ok (.iconst 1, 1) := by decide +kernel
theorem dX11_readClause_81 : decode cX11_readClause 81 = .ok (.iand, 1) := by decide +kernel
theorem dX11_readClause_82 : decode cX11_readClause 82 = .ok (.iconst 1, 1) := by decide +kernel
theorem dX11_readClause_83 : decode cX11_readClause 83 = .ok (.if_icmp .ne 9, 3) := by decide +kernel
theorem dX11_readClause_86 : decode cX11_readClause 86 = .ok (.aload_n 0, 1) := by decide +kernel
theorem dX11_readClause_87 : decode cX11_readClause 87 = .ok (.iconst 3, 1) := by decide +kernel
theorem dX11_readClause_88 : decode cX11_readClause 88 = .ok (.invokevirtual 169, 3) := by decide +kernel
theorem dX11_readClause_91 : decode cX11_readClause 91 = .ok (.ireturn, 1) := by decide +kernel
theorem dX11_readClause_92 : decode cX11_readClause 92 = .ok (.aload_n 0, 1) := by decide +kernel
theorem dX11_readClause_93 : decode cX11_readClause 93 = .ok (.dup, 1) := by decide +kernel
theorem dX11_readClause_94 : decode cX11_readClause 94 = .ok (.getfield 182, 3) := by decide +kernel
theorem dX11_readClause_97 : decode cX11_readClause 97 = .ok (.iconst 1, 1) := by decide +kernel
theorem dX11_readClause_98 : decode cX11_readClause 98 = .ok (.iload_n 1, 1) := by decide +kernel
theorem dX11_readClause_99 : decode cX11_readClause 99 = .ok (.ishl, 1) := by decide +kernel
theorem dX11_readClause_100 : decode cX11_readClause 100 = .ok (.ior, 1) := by decide +kernel
theorem dX11_readClause_101 : decode cX11_readClause 101 = .ok (.putfield 182, 3) := by decide +kernel
theorem dX11_readClause_104 : decode cX11_readClause 104 = .ok (.aload_n 0, 1) := by decide +kernel
theorem dX11_readClause_105 : decode cX11_readClause 105 = .ok (.invokevirtual 179, 3) := by decide +kernel
theorem dX11_readClause_108 : decode cX11_readClause 108 = .ok (.iload_n 1, 1) := by decide +kernel
theorem dX11_readClause_109 : decode cX11_readClause 109 = .ok (.iconst 1, 1) := by decide +kernel
theorem dX11_readClause_110 : decode cX11_readClause 110 = .ok (.if_icmp .ne 29, 3) := by decide +kernel
theorem dX11_readClause_113 : decode cX11_readClause 113 = .ok (.aload_n 0, 1) := by decide +kernel
theorem dX11_readClause_114 : decode cX11_readClause 114 = .ok (.iconst 0, 1) := by decide +kernel
theorem dX11_readClause_115 : decode cX11_readClause 115 = .ok (.bipush 20, 2) := by decide +kernel
theorem dX11_readClause_117 : decode cX11_readClause 117 = .ok (.invokevirtual 196, 3) := by decide +kernel
theorem dX11_readClause_120 : decode cX11_readClause 120 = .ok (.ifCond .ne 5, 3) := by decide +kernel
theorem dX11_readClause_123 : decode cX11_readClause 123 = .ok (.iconst 0, 1) := by decide +kernel
theorem dX11_readClause_124 : decode cX11_readClause 124 = .ok (.ireturn, 1) := by decide +kernel
theorem dX11_readClause_125 : decode cX11_readClause 125 = .ok (.aload_n 0, 1) := by decide +kernel
theorem dX11_readClause_126 : decode cX11_readClause 126 = .ok (.getfield 17, 3) := by decide +kernel
theorem dX11_readClause_129 : decode cX11_readClause 129 = .ok (.bipush 16, 2) := by decide +kernel
theorem dX11_readClause_131 : decode cX11_readClause 131 = .ok (.aload_n 0, 1) := by decide +kernel
theorem dX11_readClause_132 : decode cX11_readClause 132 = .ok (.getfield 176, 3) := by decide +kernel
theorem dX11_readClause_135 : decode cX11_readClause 135 = .ok (.iastore, 1) := by decide +kernel
theorem dX11_readClause_136 : decode cX11_readClause 136 = .ok (.goto 125, 3) := by decide +kernel
theorem dX11_readClause_139 : decode cX11_readClause 139 = .ok (.iload_n 1, 1) := by decide +kernel
theorem dX11_readClause_140 : decode cX11_readClause 140 = .ok (.iconst 3, 1) := by decide +kernel
theorem dX11_readClause_141 : decode cX11_readClause 141 = .ok (.if_icmp .ne 28, 3) := by decide +kernel
theorem dX11_readClause_144 : decode cX11_readClause 144 = .ok (.aload_n 0, 1) := by decide +kernel
theorem dX11_readClause_145 : decode cX11_readClause 145 = .ok (.iconst 1, 1) := by decide +kernel
theorem dX11_readClause_146 : decode cX11_readClause 146 = .ok (.iconst 2, 1) := by decide +kernel
theorem dX11_readClause_147 : decode cX11_readClause 147 = .ok (.invokevirtual 196, 3) := by decide +kernel
theorem dX11_readClause_150 : decode cX11_readClause 150 = .ok (.ifCond .ne 5, 3) := by decide +kernel
theorem dX11_readClause_153 : decode cX11_readClause 153 = .ok (.iconst 0, 1) := by decide +kernel
theorem dX11_readClause_154 : decode cX11_readClause 154 = .ok (.ireturn, 1) := by decide +kernel
theorem dX11_readClause_155 : decode cX11_readClause 155 = .ok (.aload_n 0, 1) := by decide +kernel
theorem dX11_readClause_156 : decode cX11_readClause 156 = .ok (.getfield 17, 3) := by decide +kernel
theorem dX11_readClause_159 : decode cX11_readClause 159 = .ok (.bipush 17, 2) := by decide +kernel
theorem dX11_readClause_161 : decode cX11_readClause 161 = .ok (.aload_n 0, 1) := by decide +kernel
theorem dX11_readClause_162 : decode cX11_readClause 162 = .ok (.getfield 176, 3) := by decide +kernel
theorem dX11_readClause_165 : decode cX11_readClause 165 = .ok (.iastore, 1) := by decide +kernel
theorem dX11_readClause_166 : decode cX11_readClause 166 = .ok (.goto 95, 3) := by decide +kernel
theorem dX11_readClause_169 : decode cX11_readClause 169 = .ok (.iload_n 1, 1) := by decide +kernel
theorem dX11_readClause_170 : decode cX11_readClause 170 = .ok (.ifCond .ne 52, 3) := by decide +kernel
theorem dX11_readClause_173 : decode cX11_readClause 173 = .ok (.aload_n 0, 1) := by decide +kernel
theorem dX11_readClause_174 : decode cX11_readClause 174 = .ok (.iconst 1, 1) := by decide +kernel
theorem dX11_readClause_175 : decode cX11_readClause 175 = .ok (.bipush 8, 2) := by decide +kernel
theorem dX11_readClause_177 : decode cX11_readClause 177 = .ok (.invokevirtual 196, 3) := by decide +kernel
theorem dX11_readClause_180 : decode cX11_readClause 180 = .ok (.ifCond .ne 5, 3) := by decide +kernel
theorem dX11_readClause_183 : decode cX11_readClause 183 = .ok (.iconst 0, 1) := by decide +kernel
theorem dX11_readClause_184 : decode cX11_readClause 184 = .ok (.ireturn, 1) := by decide +kernel
theorem dX11_readClause_185 : decode cX11_readClause 185 = .ok (.aload_n 0, 1) := by decide +kernel
theorem dX11_readClause_186 : decode cX11_readClause 186 = .ok (.getfield 17, 3) := by decide +kernel
theorem dX11_readClause_189 : decode cX11_readClause 189 = .ok (.bipush 14, 2) := by decide +kernel
theorem dX11_readClause_191 : decode cX11_readClause 191 = .ok (.aload_n 0, 1) := by decide +kernel
theorem dX11_readClause_192 : decode cX11_readClause 192 = .ok (.getfield 176, 3) := by decide +kernel
theorem dX11_readClause_195 : decode cX11_readClause 195 = .ok (.iastore, 1) := by decide +kernel
theorem dX11_readClause_196 : decode cX11_readClause 196 = .ok (.aload_n 0, 1) := by decide +kernel
theorem dX11_readClause_197 : decode cX11_readClause 197 = .ok (.iconst 1, 1) := by decide +kernel
theorem dX11_readClause_198 : decode cX11_readClause 198 = .ok (.bipush 6, 2) := by decide +kernel
theorem dX11_readClause_200 : decode cX11_readClause 200 = .ok (.invokevirtual 196, 3) := by decide +kernel
theorem dX11_readClause_203 : decode cX11_readClause 203 = .ok (.ifCond .ne 5, 3) := by decide +kernel
theorem dX11_readClause_206 : decode cX11_readClause 206 = .ok (.iconst 0, 1) := by decide +kernel
theorem dX11_readClause_207 : decode cX11_readClause 207 = .ok (.ireturn, 1) := by decide +kernel
theorem dX11_readClause_208 : decode cX11_readClause 208 = .ok (.aload_n 0, 1) := by decide +kernel
theorem dX11_readClause_209 : decode cX11_readClause 209 = .ok (.getfield 17, 3) := by decide +kernel
theorem dX11_readClause_212 : decode cX11_readClause 212 = .ok (.bipush 15, 2) := by decide +kernel
theorem dX11_readClause_214 : decode cX11_readClause 214 = .ok (.aload_n 0, 1) := by decide +kernel
theorem dX11_readClause_215 : decode cX11_readClause 215 = .ok (.getfield 176, 3) := by decide +kernel
theorem dX11_readClause_218 : decode cX11_readClause 218 = .ok (.iastore, 1) := by decide +kernel
theorem dX11_readClause_219 : decode cX11_readClause 219 = .ok (.goto 42, 3) := by decide +kernel
theorem dX11_readClause_222 : decode cX11_readClause 222 = .ok (.iconst 0, 1) := by decide +kernel
theorem dX11_readClause_223 : decode cX11_readClause 223 = .ok (.istore_n 2, 1) := by decide +kernel
theorem dX11_readClause_224 : decode cX11_readClause 224 = .ok (.iload_n 2, 1) := by decide +kernel
theorem dX11_readClause_225 : decode cX11_readClause 225 = .ok (.iconst 3, 1) := by decide +kernel
theorem dX11_readClause_226 : decode cX11_readClause 226 = .ok (.if_icmp .ge 35, 3) := by decide +kernel
theorem dX11_readClause_229 : decode cX11_readClause 229 = .ok (.aload_n 0, 1) := by decide +kernel
theorem dX11_readClause_230 : decode cX11_readClause 230 = .ok (.iconst 0, 1) := by decide +kernel
theorem dX11_readClause_231 : decode cX11_readClause 231 = .ok (.sipush 200, 3) := by decide +kernel
theorem dX11_readClause_234 : decode cX11_readClause 234 = .ok (.invokevirtual 196, 3) := by decide +kernel
theorem dX11_readClause_237 : decode cX11_readClause 237 = .ok (.ifCond .ne 5, 3) := by decide +kernel
theorem dX11_readClause_240 : decode cX11_readClause 240 = .ok (.iconst 0, 1) := by decide +kernel
theorem dX11_readClause_241 : decode cX11_readClause 241 = .ok (.ireturn, 1) := by decide +kernel
theorem dX11_readClause_242 : decode cX11_readClause 242 = .ok (.aload_n 0, 1) := by decide +kernel
theorem dX11_readClause_243 : decode cX11_readClause 243 = .ok (.getfield 17, 3) := by decide +kernel
theorem dX11_readClause_246 : decode cX11_readClause 246 = .ok (.bipush 22, 2) := by decide +kernel
theorem dX11_readClause_248 : decode cX11_readClause 248 = .ok (.iload_n 2, 1) := by decide +kernel
theorem dX11_readClause_249 : decode cX11_readClause 249 = .ok (.iadd, 1) := by decide +kernel
theorem dX11_readClause_250 : decode cX11_readClause 250 = .ok (.aload_n 0, 1) := by decide +kernel
theorem dX11_readClause_251 : decode cX11_readClause 251 = .ok (.getfield 176, 3) := by decide +kernel
theorem dX11_readClause_254 : decode cX11_readClause 254 = .ok (.iastore, 1) := by decide +kernel
theorem dX11_readClause_255 : decode cX11_readClause 255 = .ok (.iinc 2 1, 3) := by decide +kernel
theorem dX11_readClause_258 : decode cX11_readClause 258 = .ok (.goto (-34), 3) := by decide +kernel
theorem dX11_readClause_261 : decode cX11_readClause 261 = .ok (.iconst 1, 1) := by decide +kernel
theorem dX11_readClause_262 : decode cX11_readClause 262 = .ok (.ireturn, 1) := by decide +kernel
theorem dX11_cloth_0 : decode cX11_cloth 0 = .ok (.aload_n 0, 1) := by decide +kernel
theorem dX11_cloth_1 : decode cX11_cloth 1 = .ok (.aload_n 0, 1) := by decide +kernel
theorem dX11_cloth_2 : decode cX11_cloth 2 = .ok (.getfield 110, 3) := by decide +kernel
theorem dX11_cloth_5 : decode cX11_cloth 5 = .ok (.putfield 113, 3) := by decide +kernel
theorem dX11_cloth_8 : decode cX11_cloth 8 = .ok (.aload_n 0, 1) := by decide +kernel
theorem dX11_cloth_9 : decode cX11_cloth 9 = .ok (.iconst 0, 1) := by decide +kernel
theorem dX11_cloth_10 : decode cX11_cloth 10 = .ok (.putfield 110, 3) := by decide +kernel
theorem dX11_cloth_13 : decode cX11_cloth 13 = .ok (.aload_n 0, 1) := by decide +kernel
theorem dX11_cloth_14 : decode cX11_cloth 14 = .ok (.iconst 0, 1) := by decide +kernel
theorem dX11_cloth_15 : decode cX11_cloth 15 = .ok (.putfield 132, 3) := by decide +kernel
theorem dX11_cloth_18 : decode cX11_cloth 18 = .ok (.aload_n 0, 1) := by decide +kernel
theorem dX11_cloth_19 : decode cX11_cloth 19 = .ok (.invokevirtual 179, 3) := by decide +kernel
theorem dX11_cloth_22 : decode cX11_cloth 22 = .ok (.aload_n 0, 1) := by decide +kernel
theorem dX11_cloth_23 : decode cX11_cloth 23 = .ok (.iconst 0, 1) := by decide +kernel
theorem dX11_cloth_24 : decode cX11_cloth 24 = .ok (.putfield 166, 3) := by decide +kernel
theorem dX11_cloth_27 : decode cX11_cloth 27 = .ok (.aload_n 0, 1) := by decide +kernel
theorem dX11_cloth_28 : decode cX11_cloth 28 = .ok (.iconst (-1), 1) := by decide +kernel
theorem dX11_cloth_29 : decode cX11_cloth 29 = .ok (.putfield 13, 3) := by decide +kernel
theorem dX11_cloth_32 : decode cX11_cloth 32 = .ok (.aload_n 0, 1) := by decide +kernel
theorem dX11_cloth_33 : decode cX11_cloth 33 = .ok (.invokevirtual 104, 3) := by decide +kernel
theorem dX11_cloth_36 : decode cX11_cloth 36 = .ok (.iconst 0, 1) := by decide +kernel
theorem dX11_cloth_37 : decode cX11_cloth 37 = .ok (.istore_n 1, 1) := by decide +kernel
theorem dX11_cloth_38 : decode cX11_cloth 38 = .ok (.aload_n 0, 1) := by decide +kernel
theorem dX11_cloth_39 : decode cX11_cloth 39 = .ok (.getfield 141, 3) := by decide +kernel
theorem dX11_cloth_42 : decode cX11_cloth 42 = .ok (.iconst 4, 1) := by decide +kernel
theorem dX11_cloth_43 : decode cX11_cloth 43 = .ok (.if_icmp .eq 38, 3) := by decide +kernel
theorem dX11_cloth_46 : decode cX11_cloth 46 = .ok (.aload_n 0, 1) := by decide +kernel
theorem dX11_cloth_47 : decode cX11_cloth 47 = .ok (.invokevirtual 216, 3) := by decide +kernel
theorem dX11_cloth_50 : decode cX11_cloth 50 = .ok (.ifCond .ne 5, 3) := by decide +kernel
theorem dX11_cloth_53 : decode cX11_cloth 53 = .ok (.iconst (-1), 1) := by decide +kernel
theorem dX11_cloth_54 : decode cX11_cloth 54 = .ok (.ireturn, 1) := by decide +kernel
theorem dX11_cloth_55 : decode cX11_cloth 55 = .ok (.aload_n 0, 1) := by decide +kernel
theorem dX11_cloth_56 : decode cX11_cloth 56 = .ok (.getfield 141, 3) := by decide +kernel
theorem dX11_cloth_59 : decode cX11_cloth 59 = .ok (.iconst 3, 1) := by decide +kernel
theorem dX11_cloth_60 : decode cX11_cloth 60 = .ok (.if_icmp .eq 11, 3) := by decide +kernel
theorem dX11_cloth_63 : decode cX11_cloth 63 = .ok (.aload_n 0, 1) := by decide +kernel
theorem dX11_cloth_64 : decode cX11_cloth 64 = .ok (.iconst 1, 1) := by decide +kernel
theorem dX11_cloth_65 : decode cX11_cloth 65 = .ok (.invokevirtual 169, 3) := by decide +kernel
theorem dX11_cloth_68 : decode cX11_cloth 68 = .ok (.pop, 1) := by decide +kernel
theorem dX11_cloth_69 : decode cX11_cloth 69 = .ok (.iconst (-1), 1) := by decide +kernel
theorem dX11_cloth_70 : decode cX11_cloth 70 = .ok (.ireturn, 1) := by decide +kernel
theorem dX11_cloth_71 : decode cX11_cloth 71 = .ok (.aload_n 0, 1) := by decide +kernel
theorem dX11_cloth_72 : decode cX11_cloth 72 = .ok (.invokevirtual 179, 3) := by decide +kernel
theorem dX11_cloth_75 : decode cX11_cloth 75 = .ok (.iinc 1 1, 3) := by decide +kernel
theorem dX11_cloth_78 : decode cX11_cloth 78 = .ok (.goto (-40), 3) := by decide +kernel
theorem dX11_cloth_81 : decode cX11_cloth 81 = .ok (.aload_n 0, 1) := by decide +kernel
theorem dX11_cloth_82 : decode cX11_cloth 82 = .ok (.invokevirtual 107, 3) := by decide +kernel
theorem dX11_cloth_85 : decode cX11_cloth 85 = .ok (.aload_n 0, 1) := by decide +kernel
theorem dX11_cloth_86 : decode cX11_cloth 86 = .ok (.iload_n 1, 1) := by decide +kernel
theorem dX11_cloth_87 : decode cX11_cloth 87 = .ok (.putfield 219, 3) := by decide +kernel
theorem dX11_cloth_90 : decode cX11_cloth 90 = .ok (.iload_n 1, 1) := by decide +kernel
theorem dX11_cloth_91 : decode cX11_cloth 91 = .ok (.ireturn, 1) := by decide +kernel
