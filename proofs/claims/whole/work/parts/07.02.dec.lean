theorem dX10_drawThread_115 : decode cX10_drawThread 115 = .ok (.istore 5, 2) := by decide +kernel
theorem dX10_drawThread_117 : decode cX10_drawThread 117 = .ok (.iload 5, 2) := by decide +kernel
theorem dX10_drawThread_119 : decode cX10_drawThread 119 = .ok (.aload_n 0, 1) := by decide +kernel
theorem dX10_drawThread_120 : decode cX10_drawThread 120 = .ok (.getfield 81, 3) := by decide +kernel
theorem dX10_drawThread_123 : decode cX10_drawThread 123 = .ok (.bipush 9, 2) := by decide +kernel
theorem dX10_drawThread_125 : decode cX10_drawThread 125 = .ok (.invokevirtual 348, 3) := by decide +kernel
theorem dX10_drawThread_128 : decode cX10_drawThread 128 = .ok (.iconst 1, 1) := by decide +kernel
theorem dX10_drawThread_129 : decode cX10_drawThread 129 = .ok (.iadd, 1) := by decide +kernel
theorem dX10_drawThread_130 : decode cX10_drawThread 130 = .ok (.invokestatic 177, 3) := by decide +kernel
theorem dX10_drawThread_133 : decode cX10_drawThread 133 = .ok (.istore 6, 2) := by decide +kernel
theorem dX10_drawThread_135 : decode cX10_drawThread 135 = .ok (.aload_n 0, 1) := by decide +kernel
theorem dX10_drawThread_136 : decode cX10_drawThread 136 = .ok (.getfield 24, 3) := by decide +kernel
theorem dX10_drawThread_139 : decode cX10_drawThread 139 = .ok (.iload_n 3, 1) := by decide +kernel
theorem dX10_drawThread_140 : decode cX10_drawThread 140 = .ok (.iload 6, 2) := by decide +kernel
theorem dX10_drawThread_142 : decode cX10_drawThread 142 = .ok (.invokestatic 385, 3) := by decide +kernel
theorem dX10_drawThread_145 : decode cX10_drawThread 145 = .ok (.iload_n 3, 1) := by decide +kernel
theorem dX10_drawThread_146 : decode cX10_drawThread 146 = .ok (.iload 6, 2) := by decide +kernel
theorem dX10_drawThread_148 : decode cX10_drawThread 148 = .ok (.invokestatic 369, 3) := by decide +kernel
theorem dX10_drawThread_151 : decode cX10_drawThread 151 = .ok (.invokevirtual 180, 3) := by decide +kernel
theorem dX10_drawThread_154 : decode cX10_drawThread 154 = .ok (.ireturn, 1) := by decide +kernel
theorem dX10_end_0 : decode cX10_end 0 = .ok (.iload_n 1, 1) := by decide +kernel
theorem dX10_end_1 : decode cX10_end 1 = .ok (.ifCond .lt 14, 3) := by decide +kernel
theorem dX10_end_4 : decode cX10_end 4 = .ok (.iload_n 1, 1) := by decide +kernel
theorem dX10_end_5 : decode cX10_end 5 = .ok (.aload_n 0, 1) := by decide +kernel
theorem dX10_end_6 : decode cX10_end 6 = .ok (.getfield 10, 3) := by decide +kernel
theorem dX10_end_9 : decode cX10_end 9 = .ok (.getfield 89, 3) := by decide +kernel
theorem dX10_end_12 : decode cX10_end 12 = .ok (.if_icmp .le 5, 3) := by decide +kernel
theorem dX10_end_15 : decode cX10_end 15 = .ok (.iconst (-1), 1) := by decide +kernel
theorem dX10_end_16 : decode cX10_end 16 = .ok (.ireturn, 1) := by decide +kernel
theorem dX10_end_17 : decode cX10_end 17 = .ok (.aload_n 0, 1) := by decide +kernel
theorem dX10_end_18 : decode cX10_end 18 = .ok (.getfield 10, 3) := by decide +kernel
theorem dX10_end_21 : decode cX10_end 21 = .ok (.iload_n 1, 1) := by decide +kernel
theorem dX10_end_22 : decode cX10_end 22 = .ok (.putfield 89, 3) := by decide +kernel
theorem dX10_end_25 : decode cX10_end 25 = .ok (.iload_n 1, 1) := by decide +kernel
theorem dX10_end_26 : decode cX10_end 26 = .ok (.ireturn, 1) := by decide +kernel
theorem dX10_fault_0 : decode cX10_fault 0 = .ok (.iload_n 1, 1) := by decide +kernel
theorem dX10_fault_1 : decode cX10_fault 1 = .ok (.ifCond .ne 11, 3) := by decide +kernel
theorem dX10_fault_4 : decode cX10_fault 4 = .ok (.aload_n 0, 1) := by decide +kernel
theorem dX10_fault_5 : decode cX10_fault 5 = .ok (.getfield 37, 3) := by decide +kernel
theorem dX10_fault_8 : decode cX10_fault 8 = .ok (.getfield 123, 3) := by decide +kernel
theorem dX10_fault_11 : decode cX10_fault 11 = .ok (.ireturn, 1) := by decide +kernel
theorem dX10_fault_12 : decode cX10_fault 12 = .ok (.iload_n 1, 1) := by decide +kernel
theorem dX10_fault_13 : decode cX10_fault 13 = .ok (.iconst 1, 1) := by decide +kernel
theorem dX10_fault_14 : decode cX10_fault 14 = .ok (.if_icmp .ne 13, 3) := by decide +kernel
theorem dX10_fault_17 : decode cX10_fault 17 = .ok (.aload_n 0, 1) := by decide +kernel
theorem dX10_fault_18 : decode cX10_fault 18 = .ok (.getfield 37, 3) := by decide +kernel
theorem dX10_fault_21 : decode cX10_fault 21 = .ok (.getfield 126, 3) := by decide +kernel
theorem dX10_fault_24 : decode cX10_fault 24 = .ok (.goto 4, 3) := by decide +kernel
theorem dX10_fault_27 : decode cX10_fault 27 = .ok (.iconst (-1), 1) := by decide +kernel
theorem dX10_fault_28 : decode cX10_fault 28 = .ok (.ireturn, 1) := by decide +kernel
theorem dX7_addFour_0 : decode cX7_addFour 0 = .ok (.bipush 24, 2) := by decide +kernel
theorem dX7_addFour_2 : decode cX7_addFour 2 = .ok (.istore_n 2, 1) := by decide +kernel
theorem dX7_addFour_3 : decode cX7_addFour 3 = .ok (.iload_n 2, 1) := by decide +kernel
theorem dX7_addFour_4 : decode cX7_addFour 4 = .ok (.ifCond .lt 42, 3) := by decide +kernel
theorem dX7_addFour_7 : decode cX7_addFour 7 = .ok (.aload_n 0, 1) := by decide +kernel
theorem dX7_addFour_8 : decode cX7_addFour 8 = .ok (.getfield 13, 3) := by decide +kernel
theorem dX7_addFour_11 : decode cX7_addFour 11 = .ok (.sipush 900, 3) := by decide +kernel
theorem dX7_addFour_14 : decode cX7_addFour 14 = .ok (.if_icmp .ge 32, 3) := by decide +kernel
theorem dX7_addFour_17 : decode cX7_addFour 17 = .ok (.aload_n 0, 1) := by decide +kernel
theorem dX7_addFour_18 : decode cX7_addFour 18 = .ok (.getfield 9, 3) := by decide +kernel
theorem dX7_addFour_21 : decode cX7_addFour 21 = .ok (.aload_n 0, 1) := by decide +kernel
theorem dX7_addFour_22 : decode cX7_addFour 22 = .ok (.getfield 13, 3) := by decide +kernel
theorem dX7_addFour_25 : decode cX7_addFour 25 = .ok (.iload_n 1, 1) := by decide +kernel
theorem dX7_addFour_26 : decode cX7_addFour 26 = .ok (.iload_n 2, 1) := by decide +kernel
theorem dX7_addFour_27 : decode cX7_addFour 27 = .ok (.ishr, 1) := by decide +kernel
theorem dX7_addFour_28 : decode cX7_addFour 28 = .ok (.i2b, 1) := by decide +kernel
theorem dX7_addFour_29 : decode cX7_addFour 29 = .ok (.bastore, 1) := by decide +kernel
theorem dX7_addFour_30 : decode cX7_addFour 30 = .ok (.aload_n 0, 1) := by decide +kernel
theorem dX7_addFour_31 : decode cX7_addFour 31 = .ok (.dup, 1) := by decide +kernel
theorem dX7_addFour_32 : decode cX7_addFour 32 = .ok (.getfield 13, 3) := by decide +kernel
theorem dX7_addFour_35 : decode cX7_addFour 35 = .ok (.iconst 1, 1) := by decide +kernel
theorem dX7_addFour_36 : decode cX7_addFour 36 = .ok (.iadd, 1) := by decide +kernel
theorem dX7_addFour_37 : decode cX7_addFour 37 = .ok (.putfield 13, 3) := by decide +kernel
theorem dX7_addFour_40 : decode cX7_addFour 40 = .ok (.iinc 2 (-8), 3) := by decide +kernel
theorem dX7_addFour_43 : decode cX7_addFour 43 = .ok (.goto (-40), 3) := by decide +kernel
theorem dX7_addFour_46 : decode cX7_addFour 46 = .ok (.return_, 1) := by decide +kernel
theorem dX10_feed_0 : decode cX10_feed 0 = .ok (.aload_n 0, 1) := by decide +kernel
theorem dX10_feed_1 : decode cX10_feed 1 = .ok (.getfield 10, 3) := by decide +kernel
theorem dX10_feed_4 : decode cX10_feed 4 = .ok (.getfield 89, 3) := by decide +kernel
theorem dX10_feed_7 : decode cX10_feed 7 = .ok (.bipush 20, 2) := by decide +kernel
theorem dX10_feed_9 : decode cX10_feed 9 = .ok (.iadd, 1) := by decide +kernel
theorem dX10_feed_10 : decode cX10_feed 10 = .ok (.sipush 900, 3) := by decide +kernel
theorem dX10_feed_13 : decode cX10_feed 13 = .ok (.if_icmp .le 6, 3) := by decide +kernel
theorem dX10_feed_16 : decode cX10_feed 16 = .ok (.bipush (-3), 2) := by decide +kernel
theorem dX10_feed_18 : decode cX10_feed 18 = .ok (.ireturn, 1) := by decide +kernel
theorem dX10_feed_19 : decode cX10_feed 19 = .ok (.aload_n 0, 1) := by decide +kernel
theorem dX10_feed_20 : decode cX10_feed 20 = .ok (.getfield 10, 3) := by decide +kernel
theorem dX10_feed_23 : decode cX10_feed 23 = .ok (.iload_n 1, 1) := by decide +kernel
theorem dX10_feed_24 : decode cX10_feed 24 = .ok (.invokevirtual 93, 3) := by decide +kernel
theorem dX10_feed_27 : decode cX10_feed 27 = .ok (.aload_n 0, 1) := by decide +kernel
theorem dX10_feed_28 : decode cX10_feed 28 = .ok (.getfield 10, 3) := by decide +kernel
theorem dX10_feed_31 : decode cX10_feed 31 = .ok (.iload_n 2, 1) := by decide +kernel
theorem dX10_feed_32 : decode cX10_feed 32 = .ok (.invokevirtual 93, 3) := by decide +kernel
theorem dX10_feed_35 : decode cX10_feed 35 = .ok (.aload_n 0, 1) := by decide +kernel
theorem dX10_feed_36 : decode cX10_feed 36 = .ok (.getfield 10, 3) := by decide +kernel
theorem dX10_feed_39 : decode cX10_feed 39 = .ok (.iload_n 3, 1) := by decide +kernel
theorem dX10_feed_40 : decode cX10_feed 40 = .ok (.invokevirtual 93, 3) := by decide +kernel
theorem dX10_feed_43 : decode cX10_feed 43 = .ok (.aload_n 0, 1) := by decide +kernel
theorem dX10_feed_44 : decode cX10_feed 44 = .ok (.getfield 10, 3) := by decide +kernel
theorem dX10_feed_47 : decode cX10_feed 47 = .ok (.iload 4, 2) := by decide +kernel
theorem dX10_feed_49 : decode cX10_feed 49 = .ok (.invokevirtual 93, 3) := by decide +kernel
theorem dX10_feed_52 : decode cX10_feed 52 = .ok (.aload_n 0, 1) := by decide +kernel
theorem dX10_feed_53 : decode cX10_feed 53 = .ok (.getfield 10, 3) := by decide +kernel
theorem dX10_feed_56 : decode cX10_feed 56 = .ok (.iload 5, 2) := by decide +kernel
theorem dX10_feed_58 : decode cX10_feed 58 = .ok (.invokevirtual 93, 3) := by decide +kernel
theorem dX10_feed_61 : decode cX10_feed 61 = .ok (.aload_n 0, 1) := by decide +kernel
theorem dX10_feed_62 : decode cX10_feed 62 = .ok (.getfield 10, 3) := by decide +kernel
theorem dX10_feed_65 : decode cX10_feed 65 = .ok (.getfield 89, 3) := by decide +kernel
theorem dX10_feed_68 : decode cX10_feed 68 = .ok (.ireturn, 1) := by decide +kernel
theorem dX10_fit_0 : decode cX10_fit 0 = .ok (.aload_n 0, 1) := by decide +kernel
theorem dX10_fit_1 : decode cX10_fit 1 = .ok (.iload_n 1, 1) := by decide +kernel
theorem dX10_fit_2 : decode cX10_fit 2 = .ok (.iload_n 2, 1) := by decide +kernel
theorem dX10_fit_3 : decode cX10_fit 3 = .ok (.iload_n 3, 1) := by decide +kernel
theorem dX10_fit_4 : decode cX10_fit 4 = .ok (.invokevirtual 238, 3) := by decide +kernel
theorem dX10_fit_7 : decode cX10_fit 7 = .ok (.ifCond .eq 13, 3) := by decide +kernel
theorem dX10_fit_10 : decode cX10_fit 10 = .ok (.iload 4, 2) := by decide +kernel
theorem dX10_fit_12 : decode cX10_fit 12 = .ok (.iconst 0, 1) := by decide +kernel
theorem dX10_fit_13 : decode cX10_fit 13 = .ok (.iconst 3, 1) := by decide +kernel
theorem dX10_fit_14 : decode cX10_fit 14 = .ok (.invokestatic 133, 3) := by decide +kernel
theorem dX10_fit_17 : decode cX10_fit 17 = .ok (.ifCond .ne 6, 3) := by decide +kernel
theorem dX10_fit_20 : decode cX10_fit 20 = .ok (.bipush (-2), 2) := by decide +kernel
theorem dX10_fit_22 : decode cX10_fit 22 = .ok (.ireturn, 1) := by decide +kernel
theorem dX10_fit_23 : decode cX10_fit 23 = .ok (.aload_n 0, 1) := by decide +kernel
theorem dX10_fit_24 : decode cX10_fit 24 = .ok (.getfield 57, 3) := by decide +kernel
theorem dX10_fit_27 : decode cX10_fit 27 = .ok (.iload_n 1, 1) := by decide +kernel
theorem dX10_fit_28 : decode cX10_fit 28 = .ok (.iload_n 2, 1) := by decide +kernel
theorem dX10_fit_29 : decode cX10_fit 29 = .ok (.iload_n 3, 1) := by decide +kernel
theorem dX10_fit_30 : decode cX10_fit 30 = .ok (.invokevirtual 241, 3) := by decide +kernel
theorem dX10_fit_33 : decode cX10_fit 33 = .ok (.iload 4, 2) := by decide +kernel
theorem dX10_fit_35 : decode cX10_fit 35 = .ok (.tableswitch 49 0 2 #[25, 33, 41], 25) := by decide +kernel
theorem dX10_fit_60 : decode cX10_fit 60 = .ok (.aload_n 0, 1) := by decide +kernel
theorem dX10_fit_61 : decode cX10_fit 61 = .ok (.getfield 57, 3) := by decide +kernel
theorem dX10_fit_64 : decode cX10_fit 64 = .ok (.getfield 245, 3) := by decide +kernel
theorem dX10_fit_67 : decode cX10_fit 67 = .ok (.ireturn, 1) := by decide +kernel
theorem dX10_fit_68 : decode cX10_fit 68 = .ok (.aload_n 0, 1) := by decide +kernel
theorem dX10_fit_69 : decode cX10_fit 69 = .ok (.getfield 57, 3) := by decide +kernel
theorem dX10_fit_72 : decode cX10_fit 72 = .ok (.getfield 248, 3) := by decide +kernel
theorem dX10_fit_75 : decode cX10_fit 75 = .ok (.ireturn, 1) := by decide +kernel
theorem dX10_fit_76 : decode cX10_fit 76 = .ok (.aload_n 0, 1) := by decide +kernel
theorem dX10_fit_77 : decode cX10_fit 77 = .ok (.getfield 57, 3) := by decide +kernel
theorem dX10_fit_80 : decode cX10_fit 80 = .ok (.getfield 251, 3) := by decide +kernel
theorem dX10_fit_83 : decode cX10_fit 83 = .ok (.ireturn, 1) := by decide +kernel
theorem dX10_fit_84 : decode cX10_fit 84 = .ok (.aload_n 0, 1) := by decide +kernel
theorem dX10_fit_85 : decode cX10_fit 85 = .ok (.getfield 57, 3) := by decide +kernel
theorem dX10_fit_88 : decode cX10_fit 88 = .ok (.iconst 0, 1) := by decide +kernel
theorem dX10_fit_89 : decode cX10_fit 89 = .ok (.iconst 0, 1) := by decide +kernel
theorem dX10_fit_90 : decode cX10_fit 90 = .ok (.invokevirtual 254, 3) := by decide +kernel
theorem dX10_fit_93 : decode cX10_fit 93 = .ok (.ireturn, 1) := by decide +kernel
theorem dX10_isSide_0 : decode cX10_isSide 0 = .ok (.iload_n 0, 1) := by decide +kernel
theorem dX10_isSide_1 : decode cX10_isSide 1 = .ok (.ifCond .eq 8, 3) := by decide +kernel
theorem dX10_isSide_4 : decode cX10_isSide 4 = .ok (.iload_n 0, 1) := by decide +kernel
theorem dX10_isSide_5 : decode cX10_isSide 5 = .ok (.iconst 1, 1) := by decide +kernel
theorem dX10_isSide_6 : decode cX10_isSide 6 = .ok (.if_icmp .ne 7, 3) := by decide +kernel
theorem dX10_isSide_9 : decode cX10_isSide 9 = .ok (.iconst 1, 1) := by decide +kernel
theorem dX10_isSide_10 : decode cX10_isSide 10 = .ok (.goto 4, 3) := by decide +kernel
theorem dX10_isSide_13 : decode cX10_isSide 13 = .ok (.iconst 0, 1) := by decide +kernel
theorem dX10_isSide_14 : decode cX10_isSide 14 = .ok (.ireturn, 1) := by decide +kernel
theorem dX8_addLook_0 : decode cX8_addLook 0 = .ok (.aload_n 0, 1) := by decide +kernel
theorem dX8_addLook_1 : decode cX8_addLook 1 = .ok (.getfield 21, 3) := by decide +kernel
theorem dX8_addLook_4 : decode cX8_addLook 4 = .ok (.bipush 90, 2) := by decide +kernel
theorem dX8_addLook_6 : decode cX8_addLook 6 = .ok (.if_icmp .ge 51, 3) := by decide +kernel
theorem dX8_addLook_9 : decode cX8_addLook 9 = .ok (.aload_n 0, 1) := by decide +kernel
theorem dX8_addLook_10 : decode cX8_addLook 10 = .ok (.aload_n 0, 1) := by decide +kernel
theorem dX8_addLook_11 : decode cX8_addLook 11 = .ok (.getfield 11, 3) := by decide +kernel
theorem dX8_addLook_14 : decode cX8_addLook 14 = .ok (.aload_n 0, 1) := by decide +kernel
theorem dX8_addLook_15 : decode cX8_addLook 15 = .ok (.getfield 21, 3) := by decide +kernel
theorem dX8_addLook_18 : decode cX8_addLook 18 = .ok (.bipush 6, 2) := by decide +kernel
theorem dX8_addLook_20 : decode cX8_addLook 20 = .ok (.imul, 1) := by decide +kernel
theorem dX8_addLook_21 : decode cX8_addLook 21 = .ok (.iload_n 1, 1) := by decide +kernel
theorem dX8_addLook_22 : decode cX8_addLook 22 = .ok (.iload_n 2, 1) := by decide +kernel
theorem dX8_addLook_23 : decode cX8_addLook 23 = .ok (.iload_n 3, 1) := by decide +kernel
theorem dX8_addLook_24 : decode cX8_addLook 24 = .ok (.invokevirtual 40, 3) := by decide +kernel
theorem dX8_addLook_27 : decode cX8_addLook 27 = .ok (.aload_n 0, 1) := by decide +kernel
theorem dX8_addLook_28 : decode cX8_addLook 28 = .ok (.getfield 11, 3) := by decide +kernel
theorem dX8_addLook_31 : decode cX8_addLook 31 = .ok (.aload_n 0, 1) := by decide +kernel
theorem dX8_addLook_32 : decode cX8_addLook 32 = .ok (.getfield 21, 3) := by decide +kernel
theorem dX8_addLook_35 : decode cX8_addLook 35 = .ok (.bipush 6, 2) := by decide +kernel
theorem dX8_addLook_37 : decode cX8_addLook 37 = .ok (.imul, 1) := by decide +kernel
theorem dX8_addLook_38 : decode cX8_addLook 38 = .ok (.iload 4, 2) := by decide +kernel
theorem dX8_addLook_40 : decode cX8_addLook 40 = .ok (.iload 5, 2) := by decide +kernel
theorem dX8_addLook_42 : decode cX8_addLook 42 = .ok (.iload 6, 2) := by decide +kernel
theorem dX8_addLook_44 : decode cX8_addLook 44 = .ok (.invokestatic 44, 3) := by decide +kernel
theorem dX8_addLook_47 : decode cX8_addLook 47 = .ok (.aload_n 0, 1) := by decide +kernel
theorem dX8_addLook_48 : decode cX8_addLook 48 = .ok (.dup, 1) := by decide +kernel
theorem dX8_addLook_49 : decode cX8_addLook 49 = .ok (.getfield 21, 3) := by decide +kernel
theorem dX8_addLook_52 : decode cX8_addLook 52 = .ok (.iconst 1, 1) := by decide +kernel
theorem dX8_addLook_53 : decode cX8_addLook 53 = .ok (.iadd, 1) := by decide +kernel
theorem dX8_addLook_54 : decode cX8_addLook 54 = .ok (.putfield 21, 3) := by decide +kernel
theorem dX8_addLook_57 : decode cX8_addLook 57 = .ok (.return_, 1) := by decide +kernel
theorem dX10_gone_0 : decode cX10_gone 0 = .ok (.aload_n 0, 1) := by decide +kernel
theorem dX10_gone_1 : decode cX10_gone 1 = .ok (.iload_n 1, 1) := by decide +kernel
theorem dX10_gone_2 : decode cX10_gone 2 = .ok (.invokevirtual 193, 3) := by decide +kernel
theorem dX10_gone_5 : decode cX10_gone 5 = .ok (.ifCond .eq 18, 3) := by decide +kernel
theorem dX10_gone_8 : decode cX10_gone 8 = .ok (.aload_n 0, 1) := by decide +kernel
theorem dX10_gone_9 : decode cX10_gone 9 = .ok (.iload_n 2, 1) := by decide +kernel
theorem dX10_gone_10 : decode cX10_gone 10 = .ok (.invokevirtual 196, 3) := by decide +kernel
theorem dX10_gone_13 : decode cX10_gone 13 = .ok (.ifCond .eq 10, 3) := by decide +kernel
theorem dX10_gone_16 : decode cX10_gone 16 = .ok (.iload_n 3, 1) := by decide +kernel
theorem dX10_gone_17 : decode cX10_gone 17 = .ok (.invokestatic 170, 3) := by decide +kernel
theorem dX10_gone_20 : decode cX10_gone 20 = .ok (.ifCond .ne 6, 3) := by decide +kernel
theorem dX10_gone_23 : decode cX10_gone 23 = .ok (.bipush (-2), 2) := by decide +kernel
theorem dX10_gone_25 : decode cX10_gone 25 = .ok (.ireturn, 1) := by decide +kernel
theorem dX10_gone_26 : decode cX10_gone 26 = .ok (.aload_n 0, 1) := by decide +kernel
theorem dX10_gone_27 : decode cX10_gone 27 = .ok (.getfield 44, 3) := by decide +kernel
theorem dX10_gone_30 : decode cX10_gone 30 = .ok (.getfield 202, 3) := by decide +kernel
theorem dX10_gone_33 : decode cX10_gone 33 = .ok (.bipush 90, 2) := by decide +kernel
theorem dX10_gone_35 : decode cX10_gone 35 = .ok (.if_icmp .lt 6, 3) := by decide +kernel
theorem dX10_gone_38 : decode cX10_gone 38 = .ok (.bipush (-3), 2) := by decide +kernel
theorem dX10_gone_40 : decode cX10_gone 40 = .ok (.ireturn, 1) := by decide +kernel
theorem dX10_gone_41 : decode cX10_gone 41 = .ok (.aload_n 0, 1) := by decide +kernel
theorem dX10_gone_42 : decode cX10_gone 42 = .ok (.getfield 44, 3) := by decide +kernel
theorem dX10_gone_45 : decode cX10_gone 45 = .ok (.iload_n 1, 1) := by decide +kernel
theorem dX10_gone_46 : decode cX10_gone 46 = .ok (.iload_n 2, 1) := by decide +kernel
theorem dX10_gone_47 : decode cX10_gone 47 = .ok (.iload_n 3, 1) := by decide +kernel
theorem dX10_gone_48 : decode cX10_gone 48 = .ok (.bipush (-5), 2) := by decide +kernel
theorem dX10_gone_50 : decode cX10_gone 50 = .ok (.bipush (-5), 2) := by decide +kernel
theorem dX10_gone_52 : decode cX10_gone 52 = .ok (.bipush (-5), 2) := by decide +kernel
theorem dX10_gone_54 : decode cX10_gone 54 = .ok (.invokevirtual 205, 3) := by decide +kernel
theorem dX10_gone_57 : decode cX10_gone 57 = .ok (.aload_n 0, 1) := by decide +kernel
theorem dX10_gone_58 : decode cX10_gone 58 = .ok (.getfield 44, 3) := by decide +kernel
theorem dX10_gone_61 : decode cX10_gone 61 = .ok (.getfield 202, 3) := by decide +kernel
theorem dX10_gone_64 : decode cX10_gone 64 = .ok (.ireturn, 1) := by decide +kernel
theorem dX10_grey_0 : decode cX10_grey 0 = .ok (.aload_n 0, 1) := by decide +kernel
theorem dX10_grey_1 : decode cX10_grey 1 = .ok (.iload_n 1, 1) := by decide +kernel
theorem dX10_grey_2 : decode cX10_grey 2 = .ok (.iload_n 2, 1) := by decide +kernel
theorem dX10_grey_3 : decode cX10_grey 3 = .ok (.iload_n 3, 1) := by decide +kernel
theorem dX10_grey_4 : decode cX10_grey 4 = .ok (.invokevirtual 238, 3) := by decide +kernel
theorem dX10_grey_7 : decode cX10_grey 7 = .ok (.ifCond .eq 22, 3) := by decide +kernel
theorem dX10_grey_10 : decode cX10_grey 10 = .ok (.iload 4, 2) := by decide +kernel
theorem dX10_grey_12 : decode cX10_grey 12 = .ok (.iconst 0, 1) := by decide +kernel
theorem dX10_grey_13 : decode cX10_grey 13 = .ok (.bipush 99, 2) := by decide +kernel
theorem dX10_grey_15 : decode cX10_grey 15 = .ok (.invokestatic 133, 3) := by decide +kernel
theorem dX10_grey_18 : decode cX10_grey 18 = .ok (.ifCond .eq 11, 3) := by decide +kernel
theorem dX10_grey_21 : decode cX10_grey 21 = .ok (.iload 5, 2) := by decide +kernel
theorem dX10_grey_23 : decode cX10_grey 23 = .ok (.invokestatic 186, 3) := by decide +kernel
theorem dX10_grey_26 : decode cX10_grey 26 = .ok (.ifCond .ne 6, 3) := by decide +kernel
theorem dX10_grey_29 : decode cX10_grey 29 = .ok (.bipush (-2), 2) := by decide +kernel
theorem dX10_grey_31 : decode cX10_grey 31 = .ok (.ireturn, 1) := by decide +kernel
theorem dX10_grey_32 : decode cX10_grey 32 = .ok (.aload_n 0, 1) := by decide +kernel
theorem dX10_grey_33 : decode cX10_grey 33 = .ok (.getfield 57, 3) := by decide +kernel
theorem dX10_grey_36 : decode cX10_grey 36 = .ok (.iload_n 1, 1) := by decide +kernel
theorem dX10_grey_37 : decode cX10_grey 37 = .ok (.iload_n 2, 1) := by decide +kernel
theorem dX10_grey_38 : decode cX10_grey 38 = .ok (.iload_n 3, 1) := by decide +kernel
theorem dX10_grey_39 : decode cX10_grey 39 = .ok (.invokevirtual 241, 3) := by decide +kernel
theorem dX10_grey_42 : decode cX10_grey 42 = .ok (.aload_n 0, 1) := by decide +kernel
theorem dX10_grey_43 : decode cX10_grey 43 = .ok (.getfield 57, 3) := by decide +kernel
theorem dX10_grey_46 : decode cX10_grey 46 = .ok (.invokevirtual 258, 3) := by decide +kernel
theorem dX10_grey_49 : decode cX10_grey 49 = .ok (.aload_n 0, 1) := by decide +kernel
theorem dX10_grey_50 : decode cX10_grey 50 = .ok (.getfield 57, 3) := by decide +kernel
theorem dX10_grey_53 : decode cX10_grey 53 = .ok (.iload 4, 2) := by decide +kernel
theorem dX10_grey_55 : decode cX10_grey 55 = .ok (.iload 5, 2) := by decide +kernel
theorem dX10_grey_57 : decode cX10_grey 57 = .ok (.invokevirtual 267, 3) := by decide +kernel
theorem dX10_grey_60 : decode cX10_grey 60 = .ok (.ireturn, 1) := by decide +kernel
theorem dX10_hours_0 : decode cX10_hours 0 = .ok (.aload_n 0, 1) := by decide +kernel
theorem dX10_hours_1 : decode cX10_hours 1 = .ok (.iload_n 1, 1) := by decide +kernel
theorem dX10_hours_2 : decode cX10_hours 2 = .ok (.invokevirtual 163, 3) := by decide +kernel
theorem dX10_hours_5 : decode cX10_hours 5 = .ok (.ifCond .eq 46, 3) := by decide +kernel
theorem dX10_hours_8 : decode cX10_hours 8 = .ok (.iload_n 2, 1) := by decide +kernel
theorem dX10_hours_9 : decode cX10_hours 9 = .ok (.iconst 0, 1) := by decide +kernel
theorem dX10_hours_10 : decode cX10_hours 10 = .ok (.aload_n 0, 1) := by decide +kernel
theorem dX10_hours_11 : decode cX10_hours 11 = .ok (.getfield 24, 3) := by decide +kernel
theorem dX10_hours_14 : decode cX10_hours 14 = .ok (.getfield 110, 3) := by decide +kernel
theorem dX10_hours_17 : decode cX10_hours 17 = .ok (.getfield 167, 3) := by decide +kernel
theorem dX10_hours_20 : decode cX10_hours 20 = .ok (.iconst 1, 1) := by decide +kernel
theorem dX10_hours_21 : decode cX10_hours 21 = .ok (.isub, 1) := by decide +kernel
theorem dX10_hours_22 : decode cX10_hours 22 = .ok (.invokestatic 133, 3) := by decide +kernel
theorem dX10_hours_25 : decode cX10_hours 25 = .ok (.ifCond .eq 26, 3) := by decide +kernel
theorem dX10_hours_28 : decode cX10_hours 28 = .ok (.iload_n 3, 1) := by decide +kernel
theorem dX10_hours_29 : decode cX10_hours 29 = .ok (.iconst 0, 1) := by decide +kernel
theorem dX10_hours_30 : decode cX10_hours 30 = .ok (.sipush 999, 3) := by decide +kernel
theorem dX10_hours_33 : decode cX10_hours 33 = .ok (.invokestatic 133, 3) := by decide +kernel
theorem dX10_hours_36 : decode cX10_hours 36 = .ok (.ifCond .eq 15, 3) := by decide +kernel
theorem dX10_hours_39 : decode cX10_hours 39 = .ok (.iload 4, 2) := by decide +kernel
theorem dX10_hours_41 : decode cX10_hours 41 = .ok (.invokestatic 170, 3) := by decide +kernel
theorem dX10_hours_44 : decode cX10_hours 44 = .ok (.ifCond .eq 7, 3) := by decide +kernel
theorem dX10_hours_47 : decode cX10_hours 47 = .ok (.iconst 1, 1) := by decide +kernel
theorem dX10_hours_48 : decode cX10_hours 48 = .ok (.goto 4, 3) := by decide +kernel
theorem dX10_hours_51 : decode cX10_hours 51 = .ok (.iconst 0, 1) := by decide +kernel
theorem dX10_hours_52 : decode cX10_hours 52 = .ok (.istore 5, 2) := by decide +kernel
theorem dX10_hours_54 : decode cX10_hours 54 = .ok (.iload 5, 2) := by decide +kernel
theorem dX10_hours_56 : decode cX10_hours 56 = .ok (.ifCond .eq 21, 3) := by decide +kernel
theorem dX10_hours_59 : decode cX10_hours 59 = .ok (.aload_n 0, 1) := by decide +kernel
theorem dX10_hours_60 : decode cX10_hours 60 = .ok (.getfield 24, 3) := by decide +kernel
theorem dX10_hours_63 : decode cX10_hours 63 = .ok (.getfield 110, 3) := by decide +kernel
theorem dX10_hours_66 : decode cX10_hours 66 = .ok (.iload_n 1, 1) := by decide +kernel
theorem dX10_hours_67 : decode cX10_hours 67 = .ok (.iload_n 2, 1) := by decide +kernel
theorem dX10_hours_68 : decode cX10_hours 68 = .ok (.iload_n 3, 1) := by decide +kernel
theorem dX10_hours_69 : decode cX10_hours 69 = .ok (.iload 4, 2) := by decide +kernel
theorem dX10_hours_71 : decode cX10_hours 71 = .ok (.invokevirtual 173, 3) := by decide +kernel
theorem dX10_hours_74 : decode cX10_hours 74 = .ok (.goto 5, 3) := by decide +kernel
theorem dX10_hours_77 : decode cX10_hours 77 = .ok (.bipush (-2), 2) := by decide +kernel
theorem dX10_hours_79 : decode cX10_hours 79 = .ok (.ireturn, 1) := by decide +kernel
theorem dX10_isPast_0 : decode cX10_isPast 0 = .ok (.iconst 0, 1) := by decide +kernel
theorem dX10_isPast_1 : decode cX10_isPast 1 = .ok (.istore 5, 2) := by decide +kernel
theorem dX10_isPast_3 : decode cX10_isPast 3 = .ok (.iconst 0, 1) := by decide +kernel
theorem dX10_isPast_4 : decode cX10_isPast 4 = .ok (.istore 6, 2) := by decide +kernel
theorem dX10_isPast_6 : decode cX10_isPast 6 = .ok (.iload 6, 2) := by decide +kernel
theorem dX10_isPast_8 : decode cX10_isPast 8 = .ok (.iconst 3, 1) := by decide +kernel
theorem dX10_isPast_9 : decode cX10_isPast 9 = .ok (.if_icmp .ge 46, 3) := by decide +kernel
theorem dX10_isPast_12 : decode cX10_isPast 12 = .ok (.iload 5, 2) := by decide +kernel
theorem dX10_isPast_14 : decode cX10_isPast 14 = .ok (.aload_n 0, 1) := by decide +kernel
theorem dX10_isPast_15 : decode cX10_isPast 15 = .ok (.getfield 24, 3) := by decide +kernel
theorem dX10_isPast_18 : decode cX10_isPast 18 = .ok (.iload_n 1, 1) := by decide +kernel
theorem dX10_isPast_19 : decode cX10_isPast 19 = .ok (.iload 4, 2) := by decide +kernel
theorem dX10_isPast_21 : decode cX10_isPast 21 = .ok (.iload 6, 2) := by decide +kernel
theorem dX10_isPast_23 : decode cX10_isPast 23 = .ok (.invokevirtual 189, 3) := by decide +kernel
theorem dX10_isPast_26 : decode cX10_isPast 26 = .ok (.aload_n 0, 1) := by decide +kernel
theorem dX10_isPast_27 : decode cX10_isPast 27 = .ok (.getfield 44, 3) := by decide +kernel
theorem dX10_isPast_30 : decode cX10_isPast 30 = .ok (.iload_n 2, 1) := by decide +kernel
theorem dX10_isPast_31 : decode cX10_isPast 31 = .ok (.iload 6, 2) := by decide +kernel
theorem dX10_isPast_33 : decode cX10_isPast 33 = .ok (.invokevirtual 231, 3) := by decide +kernel
theorem dX10_isPast_36 : decode cX10_isPast 36 = .ok (.iload_n 3, 1) := by decide +kernel
theorem dX10_isPast_37 : decode cX10_isPast 37 = .ok (.iadd, 1) := by decide +kernel
theorem dX10_isPast_38 : decode cX10_isPast 38 = .ok (.if_icmp .lt 7, 3) := by decide +kernel
theorem dX10_isPast_41 : decode cX10_isPast 41 = .ok (.iconst 1, 1) := by decide +kernel
theorem dX10_isPast_42 : decode cX10_isPast 42 = .ok (.goto 4, 3) := by decide +kernel
theorem dX10_isPast_45 : decode cX10_isPast 45 = .ok (.iconst 0, 1) := by decide +kernel
theorem dX10_isPast_46 : decode cX10_isPast 46 = .ok (.iadd, 1) := by decide +kernel
theorem dX10_isPast_47 : decode cX10_isPast 47 = .ok (.istore 5, 2) := by decide +kernel
theorem dX10_isPast_49 : decode cX10_isPast 49 = .ok (.iinc 6 1, 3) := by decide +kernel
theorem dX10_isPast_52 : decode cX10_isPast 52 = .ok (.goto (-46), 3) := by decide +kernel
theorem dX10_isPast_55 : decode cX10_isPast 55 = .ok (.iload_n 3, 1) := by decide +kernel
theorem dX10_isPast_56 : decode cX10_isPast 56 = .ok (.ifCond .le 16, 3) := by decide +kernel
theorem dX10_isPast_59 : decode cX10_isPast 59 = .ok (.iload 5, 2) := by decide +kernel
theorem dX10_isPast_61 : decode cX10_isPast 61 = .ok (.ifCond .le 7, 3) := by decide +kernel
theorem dX10_isPast_64 : decode cX10_isPast 64 = .ok (.iconst 1, 1) := by decide +kernel
theorem dX10_isPast_65 : decode cX10_isPast 65 = .ok (.goto 18, 3) := by decide +kernel
theorem dX10_isPast_68 : decode cX10_isPast 68 = .ok (.iconst 0, 1) := by decide +kernel
theorem dX10_isPast_69 : decode cX10_isPast 69 = .ok (.goto 14, 3) := by decide +kernel
theorem dX10_isPast_72 : decode cX10_isPast 72 = .ok (.iload 5, 2) := by decide +kernel
theorem dX10_isPast_74 : decode cX10_isPast 74 = .ok (.iconst 3, 1) := by decide +kernel
theorem dX10_isPast_75 : decode cX10_isPast 75 = .ok (.if_icmp .ne 7, 3) := by decide +kernel
theorem dX10_isPast_78 : decode cX10_isPast 78 = .ok (.iconst 1, 1) := by decide +kernel
theorem dX10_isPast_79 : decode cX10_isPast 79 = .ok (.goto 4, 3) := by decide +kernel
theorem dX10_isPast_82 : decode cX10_isPast 82 = .ok (.iconst 0, 1) := by decide +kernel
theorem dX10_isPast_83 : decode cX10_isPast 83 = .ok (.ireturn, 1) := by decide +kernel
theorem dX10_hoursPast_0 : decode cX10_hoursPast 0 = .ok (.iconst 0, 1) := by decide +kernel
theorem dX10_hoursPast_1 : decode cX10_hoursPast 1 = .ok (.istore 4, 2) := by decide +kernel
theorem dX10_hoursPast_3 : decode cX10_hoursPast 3 = .ok (.sipush 2000, 3) := by decide +kernel
theorem dX10_hoursPast_6 : decode cX10_hoursPast 6 = .ok (.istore 5, 2) := by decide +kernel
theorem dX10_hoursPast_8 : decode cX10_hoursPast 8 = .ok (.iconst 0, 1) := by decide +kernel
theorem dX10_hoursPast_9 : decode cX10_hoursPast 9 = .ok (.istore 6, 2) := by decide +kernel
theorem dX10_hoursPast_11 : decode cX10_hoursPast 11 = .ok (.iload 6, 2) := by decide +kernel
theorem dX10_hoursPast_13 : decode cX10_hoursPast 13 = .ok (.bipush 12, 2) := by decide +kernel
theorem dX10_hoursPast_15 : decode cX10_hoursPast 15 = .ok (.if_icmp .ge 50, 3) := by decide +kernel
theorem dX10_hoursPast_18 : decode cX10_hoursPast 18 = .ok (.iload 4, 2) := by decide +kernel
theorem dX10_hoursPast_20 : decode cX10_hoursPast 20 = .ok (.iload 5, 2) := by decide +kernel
theorem dX10_hoursPast_22 : decode cX10_hoursPast 22 = .ok (.if_icmp .ge 43, 3) := by decide +kernel
theorem dX10_hoursPast_25 : decode cX10_hoursPast 25 = .ok (.iload 4, 2) := by decide +kernel
theorem dX10_hoursPast_27 : decode cX10_hoursPast 27 = .ok (.iload 5, 2) := by decide +kernel
theorem dX10_hoursPast_29 : decode cX10_hoursPast 29 = .ok (.iadd, 1) := by decide +kernel
theorem dX10_hoursPast_30 : decode cX10_hoursPast 30 = .ok (.iconst 2, 1) := by decide +kernel
theorem dX10_hoursPast_31 : decode cX10_hoursPast 31 = .ok (.idiv, 1) := by decide +kernel
theorem dX10_hoursPast_32 : decode cX10_hoursPast 32 = .ok (.istore 7, 2) := by decide +kernel
theorem dX10_hoursPast_34 : decode cX10_hoursPast 34 = .ok (.aload_n 0, 1) := by decide +kernel
theorem dX10_hoursPast_35 : decode cX10_hoursPast 35 = .ok (.iload_n 1, 1) := by decide +kernel
theorem dX10_hoursPast_36 : decode cX10_hoursPast 36 = .ok (.iload_n 2, 1) := by decide +kernel
theorem dX10_hoursPast_37 : decode cX10_hoursPast 37 = .ok (.iload_n 3, 1) := by decide +kernel
theorem dX10_hoursPast_38 : decode cX10_hoursPast 38 = .ok (.iload 7, 2) := by decide +kernel
theorem dX10_hoursPast_40 : decode cX10_hoursPast 40 = .ok (.invokevirtual 365, 3) := by decide +kernel
theorem dX10_hoursPast_43 : decode cX10_hoursPast 43 = .ok (.ifCond .eq 10, 3) := by decide +kernel
theorem dX10_hoursPast_46 : decode cX10_hoursPast 46 = .ok (.iload 7, 2) := by decide +kernel
theorem dX10_hoursPast_48 : decode cX10_hoursPast 48 = .ok (.istore 5, 2) := by decide +kernel
theorem dX10_hoursPast_50 : decode cX10_hoursPast 50 = .ok (.goto 9, 3) := by decide +kernel
theorem dX10_hoursPast_53 : decode cX10_hoursPast 53 = .ok (.iload 7, 2) := by decide +kernel
theorem dX10_hoursPast_55 : decode cX10_hoursPast 55 = .ok (.iconst 1, 1) := by decide +kernel
theorem dX10_hoursPast_56 : decode cX10_hoursPast 56 = .ok (.iadd, 1) := by decide +kernel
theorem dX10_hoursPast_57 : decode cX10_hoursPast 57 = .ok (.istore 4, 2) := by decide +kernel
theorem dX10_hoursPast_59 : decode cX10_hoursPast 59 = .ok (.iinc 6 1, 3) := by decide +kernel
theorem dX10_hoursPast_62 : decode cX10_hoursPast 62 = .ok (.goto (-51), 3) := by decide +kernel
theorem dX10_hoursPast_65 : decode cX10_hoursPast 65 = .ok (.iload 4, 2) := by decide +kernel
theorem dX10_hoursPast_67 : decode cX10_hoursPast 67 = .ok (.ireturn, 1) := by decide +kernel
theorem dX10_isGoneInFront_0 : decode cX10_isGoneInFront 0 = .ok (.aload_n 0, 1) := by decide +kernel
theorem dX10_isGoneInFront_1 : decode cX10_isGoneInFront 1 = .ok (.getfield 44, 3) := by decide +kernel
theorem dX10_isGoneInFront_4 : decode cX10_isGoneInFront 4 = .ok (.aload_n 0, 1) := by decide +kernel
theorem dX10_isGoneInFront_5 : decode cX10_isGoneInFront 5 = .ok (.getfield 44, 3) := by decide +kernel
theorem dX10_isGoneInFront_8 : decode cX10_isGoneInFront 8 = .ok (.iload_n 1, 1) := by decide +kernel
theorem dX10_isGoneInFront_9 : decode cX10_isGoneInFront 9 = .ok (.iconst 0, 1) := by decide +kernel
theorem dX10_isGoneInFront_10 : decode cX10_isGoneInFront 10 = .ok (.sipush 999, 3) := by decide +kernel
theorem dX10_isGoneInFront_13 : decode cX10_isGoneInFront 13 = .ok (.invokevirtual 228, 3) := by decide +kernel
theorem dX10_isGoneInFront_16 : decode cX10_isGoneInFront 16 = .ok (.iconst 0, 1) := by decide +kernel
theorem dX10_isGoneInFront_17 : decode cX10_isGoneInFront 17 = .ok (.invokevirtual 231, 3) := by decide +kernel
theorem dX10_isGoneInFront_20 : decode cX10_isGoneInFront 20 = .ok (.bipush (-5), 2) := by decide +kernel
theorem dX10_isGoneInFront_22 : decode cX10_isGoneInFront 22 = .ok (.if_icmp .ne 7, 3) := by decide +kernel
theorem dX10_isGoneInFront_25 : decode cX10_isGoneInFront 25 = .ok (.iconst 1, 1) := by decide +kernel
theorem dX10_isGoneInFront_26 : decode cX10_isGoneInFront 26 = .ok (.goto 4, 3) := by decide +kernel
theorem dX10_isGoneInFront_29 : decode cX10_isGoneInFront 29 = .ok (.iconst 0, 1) := by decide +kernel
theorem dX10_isGoneInFront_30 : decode cX10_isGoneInFront 30 = .ok (.ireturn, 1) := by decide +kernel
theorem dX10_isWithinSlack_0 : decode cX10_isWithinSlack 0 = .ok (.iload_n 3, 1) := by decide +kernel
theorem dX10_isWithinSlack_1 : decode cX10_isWithinSlack 1 = .ok (.iconst 0, 1) := by decide +kernel
theorem dX10_isWithinSlack_2 : decode cX10_isWithinSlack 2 = .ok (.sipush 1999, 3) := by decide +kernel
theorem dX10_isWithinSlack_5 : decode cX10_isWithinSlack 5 = .ok (.invokestatic 133, 3) := by decide +kernel
theorem dX10_isWithinSlack_8 : decode cX10_isWithinSlack 8 = .ok (.ifCond .ne 5, 3) := by decide +kernel
theorem dX10_isWithinSlack_11 : decode cX10_isWithinSlack 11 = .ok (.iconst 0, 1) := by decide +kernel
theorem dX10_isWithinSlack_12 : decode cX10_isWithinSlack 12 = .ok (.ireturn, 1) := by decide +kernel
theorem dX10_isWithinSlack_13 : decode cX10_isWithinSlack 13 = .ok (.iconst 0, 1) := by decide +kernel
theorem dX10_isWithinSlack_14 : decode cX10_isWithinSlack 14 = .ok (.istore 4, 2) := by decide +kernel
theorem dX10_isWithinSlack_16 : decode cX10_isWithinSlack 16 = .ok (.iload 4, 2) := by decide +kernel
theorem dX10_isWithinSlack_18 : decode cX10_isWithinSlack 18 = .ok (.iconst 3, 1) := by decide +kernel
theorem dX10_isWithinSlack_19 : decode cX10_isWithinSlack 19 = .ok (.if_icmp .ge 53, 3) := by decide +kernel
theorem dX10_isWithinSlack_22 : decode cX10_isWithinSlack 22 = .ok (.aload_n 0, 1) := by decide +kernel
theorem dX10_isWithinSlack_23 : decode cX10_isWithinSlack 23 = .ok (.getfield 24, 3) := by decide +kernel
theorem dX10_isWithinSlack_26 : decode cX10_isWithinSlack 26 = .ok (.iload_n 1, 1) := by decide +kernel
theorem dX10_isWithinSlack_27 : decode cX10_isWithinSlack 27 = .ok (.iload_n 3, 1) := by decide +kernel
theorem dX10_isWithinSlack_28 : decode cX10_isWithinSlack 28 = .ok (.iload 4, 2) := by decide +kernel
theorem dX10_isWithinSlack_30 : decode cX10_isWithinSlack 30 = .ok (.invokevirtual 189, 3) := by decide +kernel
theorem dX10_isWithinSlack_33 : decode cX10_isWithinSlack 33 = .ok (.aload_n 0, 1) := by decide +kernel
theorem dX10_isWithinSlack_34 : decode cX10_isWithinSlack 34 = .ok (.getfield 44, 3) := by decide +kernel
theorem dX10_isWithinSlack_37 : decode cX10_isWithinSlack 37 = .ok (.iload_n 2, 1) := by decide +kernel
theorem dX10_isWithinSlack_38 : decode cX10_isWithinSlack 38 = .ok (.iload 4, 2) := by decide +kernel
theorem dX10_isWithinSlack_40 : decode cX10_isWithinSlack 40 = .ok (.invokevirtual 231, 3) := by decide +kernel
theorem dX10_isWithinSlack_43 : decode cX10_isWithinSlack 43 = .ok (.isub, 1) := by decide +kernel
theorem dX10_isWithinSlack_44 : decode cX10_isWithinSlack 44 = .ok (.istore 5, 2) := by decide +kernel
theorem dX10_isWithinSlack_46 : decode cX10_isWithinSlack 46 = .ok (.iload 5, 2) := by decide +kernel
theorem dX10_isWithinSlack_48 : decode cX10_isWithinSlack 48 = .ok (.invokestatic 360, 3) := by decide +kernel
theorem dX10_isWithinSlack_51 : decode cX10_isWithinSlack 51 = .ok (.aload_n 0, 1) := by decide +kernel
theorem dX10_isWithinSlack_52 : decode cX10_isWithinSlack 52 = .ok (.getfield 24, 3) := by decide +kernel
theorem dX10_isWithinSlack_55 : decode cX10_isWithinSlack 55 = .ok (.getfield 110, 3) := by decide +kernel
theorem dX10_isWithinSlack_58 : decode cX10_isWithinSlack 58 = .ok (.getfield 276, 3) := by decide +kernel
theorem dX10_isWithinSlack_61 : decode cX10_isWithinSlack 61 = .ok (.if_icmp .le 5, 3) := by decide +kernel
theorem dX10_isWithinSlack_64 : decode cX10_isWithinSlack 64 = .ok (.iconst 0, 1) := by decide +kernel
theorem dX10_isWithinSlack_65 : decode cX10_isWithinSlack 65 = .ok (.ireturn, 1) := by decide +kernel
theorem dX10_isWithinSlack_66 : decode cX10_isWithinSlack 66 = .ok (.iinc 4 1, 3) := by decide +kernel
theorem dX10_isWithinSlack_69 : decode cX10_isWithinSlack 69 = .ok (.goto (-53), 3) := by decide +kernel
theorem dX10_isWithinSlack_72 : decode cX10_isWithinSlack 72 = .ok (.iconst 1, 1) := by decide +kernel
theorem dX10_isWithinSlack_73 : decode cX10_isWithinSlack 73 = .ok (.ireturn, 1) := by decide +kernel
theorem dX8_copyFrom_0 : decode cX8_copyFrom 0 = .ok (.aload_n 0, 1) := by decide +kernel
theorem dX8_copyFrom_1 : decode cX8_copyFrom 1 = .ok (.aload_n 1, 1) := by decide +kernel
theorem dX8_copyFrom_2 : decode cX8_copyFrom 2 = .ok (.getfield 21, 3) := by decide +kernel
theorem dX8_copyFrom_5 : decode cX8_copyFrom 5 = .ok (.putfield 21, 3) := by decide +kernel
theorem dX8_copyFrom_8 : decode cX8_copyFrom 8 = .ok (.aload_n 0, 1) := by decide +kernel
theorem dX8_copyFrom_9 : decode cX8_copyFrom 9 = .ok (.aload_n 1, 1) := by decide +kernel
theorem dX8_copyFrom_10 : decode cX8_copyFrom 10 = .ok (.getfield 25, 3) := by decide +kernel
theorem dX8_copyFrom_13 : decode cX8_copyFrom 13 = .ok (.putfield 25, 3) := by decide +kernel
theorem dX8_copyFrom_16 : decode cX8_copyFrom 16 = .ok (.aload_n 0, 1) := by decide +kernel
theorem dX8_copyFrom_17 : decode cX8_copyFrom 17 = .ok (.aload_n 1, 1) := by decide +kernel
theorem dX8_copyFrom_18 : decode cX8_copyFrom 18 = .ok (.getfield 28, 3) := by decide +kernel
theorem dX8_copyFrom_21 : decode cX8_copyFrom 21 = .ok (.putfield 28, 3) := by decide +kernel
theorem dX8_copyFrom_24 : decode cX8_copyFrom 24 = .ok (.aload_n 0, 1) := by decide +kernel
theorem dX8_copyFrom_25 : decode cX8_copyFrom 25 = .ok (.aload_n 1, 1) := by decide +kernel
theorem dX8_copyFrom_26 : decode cX8_copyFrom 26 = .ok (.getfield 31, 3) := by decide +kernel
theorem dX8_copyFrom_29 : decode cX8_copyFrom 29 = .ok (.putfield 31, 3) := by decide +kernel
theorem dX8_copyFrom_32 : decode cX8_copyFrom 32 = .ok (.aload_n 1, 1) := by decide +kernel
theorem dX8_copyFrom_33 : decode cX8_copyFrom 33 = .ok (.getfield 11, 3) := by decide +kernel
theorem dX8_copyFrom_36 : decode cX8_copyFrom 36 = .ok (.iconst 0, 1) := by decide +kernel
theorem dX8_copyFrom_37 : decode cX8_copyFrom 37 = .ok (.aload_n 0, 1) := by decide +kernel
theorem dX8_copyFrom_38 : decode cX8_copyFrom 38 = .ok (.getfield 11, 3) := by decide +kernel
theorem dX8_copyFrom_41 : decode cX8_copyFrom 41 = .ok (.iconst 0, 1) := by decide +kernel
theorem dX8_copyFrom_42 : decode cX8_copyFrom 42 = .ok (.aload_n 0, 1) := by decide +kernel
theorem dX8_copyFrom_43 : decode cX8_copyFrom 43 = .ok (.getfield 21, 3) := by decide +kernel
theorem dX8_copyFrom_46 : decode cX8_copyFrom 46 = .ok (.bipush 6, 2) := by decide +kernel
theorem dX8_copyFrom_48 : decode cX8_copyFrom 48 = .ok (.imul, 1) := by decide +kernel
theorem dX8_copyFrom_49 : decode cX8_copyFrom 49 = .ok (.invokestatic 34, 3) := by decide +kernel
theorem dX8_copyFrom_52 : decode cX8_copyFrom 52 = .ok (.aload_n 1, 1) := by decide +kernel
theorem dX8_copyFrom_53 : decode cX8_copyFrom 53 = .ok (.getfield 15, 3) := by decide +kernel
theorem dX8_copyFrom_56 : decode cX8_copyFrom 56 = .ok (.iconst 0, 1) := by decide +kernel
theorem dX8_copyFrom_57 : decode cX8_copyFrom 57 = .ok (.aload_n 0, 1) := by decide +kernel
theorem dX8_copyFrom_58 : decode cX8_copyFrom 58 = .ok (.getfield 15, 3) := by decide +kernel
theorem dX8_copyFrom_61 : decode cX8_copyFrom 61 = .ok (.iconst 0, 1) := by decide +kernel
theorem dX8_copyFrom_62 : decode cX8_copyFrom 62 = .ok (.aload_n 0, 1) := by decide +kernel
theorem dX8_copyFrom_63 : decode cX8_copyFrom 63 = .ok (.getfield 25, 3) := by decide +kernel
theorem dX8_copyFrom_66 : decode cX8_copyFrom 66 = .ok (.bipush 6, 2) := by decide +kernel
theorem dX8_copyFrom_68 : decode cX8_copyFrom 68 = .ok (.imul, 1) := by decide +kernel
theorem dX8_copyFrom_69 : decode cX8_copyFrom 69 = .ok (.invokestatic 34, 3) := by decide +kernel
theorem dX8_copyFrom_72 : decode cX8_copyFrom 72 = .ok (.aload_n 1, 1) := by decide +kernel
theorem dX8_copyFrom_73 : decode cX8_copyFrom 73 = .ok (.getfield 18, 3) := by decide +kernel
theorem dX8_copyFrom_76 : decode cX8_copyFrom 76 = .ok (.iconst 0, 1) := by decide +kernel
theorem dX8_copyFrom_77 : decode cX8_copyFrom 77 = .ok (.aload_n 0, 1) := by decide +kernel
theorem dX8_copyFrom_78 : decode cX8_copyFrom 78 = .ok (.getfield 18, 3) := by decide +kernel
theorem dX8_copyFrom_81 : decode cX8_copyFrom 81 = .ok (.iconst 0, 1) := by decide +kernel
theorem dX8_copyFrom_82 : decode cX8_copyFrom 82 = .ok (.aload_n 0, 1) := by decide +kernel
theorem dX8_copyFrom_83 : decode cX8_copyFrom 83 = .ok (.getfield 28, 3) := by decide +kernel
theorem dX8_copyFrom_86 : decode cX8_copyFrom 86 = .ok (.bipush 6, 2) := by decide +kernel
theorem dX8_copyFrom_88 : decode cX8_copyFrom 88 = .ok (.imul, 1) := by decide +kernel
theorem dX8_copyFrom_89 : decode cX8_copyFrom 89 = .ok (.invokestatic 34, 3) := by decide +kernel
theorem dX8_copyFrom_92 : decode cX8_copyFrom 92 = .ok (.return_, 1) := by decide +kernel
theorem dX10_keep_0 : decode cX10_keep 0 = .ok (.iload_n 1, 1) := by decide +kernel
theorem dX10_keep_1 : decode cX10_keep 1 = .ok (.iconst 0, 1) := by decide +kernel
theorem dX10_keep_2 : decode cX10_keep 2 = .ok (.aload_n 0, 1) := by decide +kernel
theorem dX10_keep_3 : decode cX10_keep 3 = .ok (.getfield 48, 3) := by decide +kernel
theorem dX10_keep_6 : decode cX10_keep 6 = .ok (.arraylength, 1) := by decide +kernel
theorem dX10_keep_7 : decode cX10_keep 7 = .ok (.iconst 1, 1) := by decide +kernel
theorem dX10_keep_8 : decode cX10_keep 8 = .ok (.isub, 1) := by decide +kernel
theorem dX10_keep_9 : decode cX10_keep 9 = .ok (.invokestatic 133, 3) := by decide +kernel
theorem dX10_keep_12 : decode cX10_keep 12 = .ok (.ifCond .ne 6, 3) := by decide +kernel
theorem dX10_keep_15 : decode cX10_keep 15 = .ok (.bipush (-2), 2) := by decide +kernel
theorem dX10_keep_17 : decode cX10_keep 17 = .ok (.ireturn, 1) := by decide +kernel
theorem dX10_keep_18 : decode cX10_keep 18 = .ok (.aload_n 0, 1) := by decide +kernel
theorem dX10_keep_19 : decode cX10_keep 19 = .ok (.getfield 48, 3) := by decide +kernel
theorem dX10_keep_22 : decode cX10_keep 22 = .ok (.iload_n 1, 1) := by decide +kernel
theorem dX10_keep_23 : decode cX10_keep 23 = .ok (.aaload, 1) := by decide +kernel
theorem dX10_keep_24 : decode cX10_keep 24 = .ok (.aload_n 0, 1) := by decide +kernel
theorem dX10_keep_25 : decode cX10_keep 25 = .ok (.getfield 44, 3) := by decide +kernel
theorem dX10_keep_28 : decode cX10_keep 28 = .ok (.invokevirtual 234, 3) := by decide +kernel
theorem dX10_keep_31 : decode cX10_keep 31 = .ok (.aload_n 0, 1) := by decide +kernel
theorem dX10_keep_32 : decode cX10_keep 32 = .ok (.getfield 48, 3) := by decide +kernel
theorem dX10_keep_35 : decode cX10_keep 35 = .ok (.iload_n 1, 1) := by decide +kernel
theorem dX10_keep_36 : decode cX10_keep 36 = .ok (.aaload, 1) := by decide +kernel
theorem dX10_keep_37 : decode cX10_keep 37 = .ok (.iconst 1, 1) := by decide +kernel
theorem dX10_keep_38 : decode cX10_keep 38 = .ok (.putfield 119, 3) := by decide +kernel
theorem dX10_keep_41 : decode cX10_keep 41 = .ok (.aload_n 0, 1) := by decide +kernel
theorem dX10_keep_42 : decode cX10_keep 42 = .ok (.getfield 44, 3) := by decide +kernel
theorem dX10_keep_45 : decode cX10_keep 45 = .ok (.getfield 202, 3) := by decide +kernel
theorem dX10_keep_48 : decode cX10_keep 48 = .ok (.ireturn, 1) := by decide +kernel
theorem dX10_lightBack_0 : decode cX10_lightBack 0 = .ok (.aload_n 0, 1) := by decide +kernel
theorem dX10_lightBack_1 : decode cX10_lightBack 1 = .ok (.iload_n 1, 1) := by decide +kernel
theorem dX10_lightBack_2 : decode cX10_lightBack 2 = .ok (.invokevirtual 196, 3) := by decide +kernel
theorem dX10_lightBack_5 : decode cX10_lightBack 5 = .ok (.ifCond .eq 26, 3) := by decide +kernel
theorem dX10_lightBack_8 : decode cX10_lightBack 8 = .ok (.iload_n 2, 1) := by decide +kernel
theorem dX10_lightBack_9 : decode cX10_lightBack 9 = .ok (.invokestatic 170, 3) := by decide +kernel
theorem dX10_lightBack_12 : decode cX10_lightBack 12 = .ok (.ifCond .eq 19, 3) := by decide +kernel
theorem dX10_lightBack_15 : decode cX10_lightBack 15 = .ok (.aload_n 0, 1) := by decide +kernel
theorem dX10_lightBack_16 : decode cX10_lightBack 16 = .ok (.iload_n 3, 1) := by decide +kernel
theorem dX10_lightBack_17 : decode cX10_lightBack 17 = .ok (.invokevirtual 183, 3) := by decide +kernel
theorem dX10_lightBack_20 : decode cX10_lightBack 20 = .ok (.ifCond .eq 11, 3) := by decide +kernel
theorem dX10_lightBack_23 : decode cX10_lightBack 23 = .ok (.iload 4, 2) := by decide +kernel
theorem dX10_lightBack_25 : decode cX10_lightBack 25 = .ok (.invokestatic 225, 3) := by decide +kernel
theorem dX10_lightBack_28 : decode cX10_lightBack 28 = .ok (.ifCond .ne 6, 3) := by decide +kernel
theorem dX10_lightBack_31 : decode cX10_lightBack 31 = .ok (.bipush (-2), 2) := by decide +kernel
theorem dX10_lightBack_33 : decode cX10_lightBack 33 = .ok (.ireturn, 1) := by decide +kernel
theorem dX10_lightBack_34 : decode cX10_lightBack 34 = .ok (.aload_n 0, 1) := by decide +kernel
theorem dX10_lightBack_35 : decode cX10_lightBack 35 = .ok (.getfield 44, 3) := by decide +kernel
theorem dX10_lightBack_38 : decode cX10_lightBack 38 = .ok (.iload_n 1, 1) := by decide +kernel
theorem dX10_lightBack_39 : decode cX10_lightBack 39 = .ok (.iload_n 2, 1) := by decide +kernel
theorem dX10_lightBack_40 : decode cX10_lightBack 40 = .ok (.iload 4, 2) := by decide +kernel
theorem dX10_lightBack_42 : decode cX10_lightBack 42 = .ok (.invokevirtual 228, 3) := by decide +kernel
theorem dX10_lightBack_45 : decode cX10_lightBack 45 = .ok (.istore 6, 2) := by decide +kernel
theorem dX10_lightBack_47 : decode cX10_lightBack 47 = .ok (.aload_n 0, 1) := by decide +kernel
theorem dX10_lightBack_48 : decode cX10_lightBack 48 = .ok (.getfield 44, 3) := by decide +kernel
theorem dX10_lightBack_51 : decode cX10_lightBack 51 = .ok (.iload 6, 2) := by decide +kernel
theorem dX10_lightBack_53 : decode cX10_lightBack 53 = .ok (.invokevirtual 273, 3) := by decide +kernel
theorem dX10_lightBack_56 : decode cX10_lightBack 56 = .ok (.ifCond .ne 5, 3) := by decide +kernel
theorem dX10_lightBack_59 : decode cX10_lightBack 59 = .ok (.iconst (-1), 1) := by decide +kernel
theorem dX10_lightBack_60 : decode cX10_lightBack 60 = .ok (.ireturn, 1) := by decide +kernel
theorem dX10_lightBack_61 : decode cX10_lightBack 61 = .ok (.aload_n 0, 1) := by decide +kernel
theorem dX10_lightBack_62 : decode cX10_lightBack 62 = .ok (.iload_n 3, 1) := by decide +kernel
theorem dX10_lightBack_63 : decode cX10_lightBack 63 = .ok (.iload 6, 2) := by decide +kernel
theorem dX10_lightBack_65 : decode cX10_lightBack 65 = .ok (.aload_n 0, 1) := by decide +kernel
theorem dX10_lightBack_66 : decode cX10_lightBack 66 = .ok (.getfield 24, 3) := by decide +kernel
theorem dX10_lightBack_69 : decode cX10_lightBack 69 = .ok (.getfield 110, 3) := by decide +kernel
theorem dX10_lightBack_72 : decode cX10_lightBack 72 = .ok (.getfield 276, 3) := by decide +kernel
theorem dX10_lightBack_75 : decode cX10_lightBack 75 = .ok (.ineg, 1) := by decide +kernel
theorem dX10_lightBack_76 : decode cX10_lightBack 76 = .ok (.invokevirtual 279, 3) := by decide +kernel
theorem dX10_lightBack_79 : decode cX10_lightBack 79 = .ok (.istore 7, 2) := by decide +kernel
theorem dX10_lightBack_81 : decode cX10_lightBack 81 = .ok (.aload_n 0, 1) := by decide +kernel
theorem dX10_lightBack_82 : decode cX10_lightBack 82 = .ok (.iload_n 3, 1) := by decide +kernel
theorem dX10_lightBack_83 : decode cX10_lightBack 83 = .ok (.iload 6, 2) := by decide +kernel
theorem dX10_lightBack_85 : decode cX10_lightBack 85 = .ok (.aload_n 0, 1) := by decide +kernel
theorem dX10_lightBack_86 : decode cX10_lightBack 86 = .ok (.getfield 24, 3) := by decide +kernel
theorem dX10_lightBack_89 : decode cX10_lightBack 89 = .ok (.getfield 110, 3) := by decide +kernel
theorem dX10_lightBack_92 : decode cX10_lightBack 92 = .ok (.getfield 276, 3) := by decide +kernel
theorem dX10_lightBack_95 : decode cX10_lightBack 95 = .ok (.iconst 1, 1) := by decide +kernel
theorem dX10_lightBack_96 : decode cX10_lightBack 96 = .ok (.iadd, 1) := by decide +kernel
theorem dX10_lightBack_97 : decode cX10_lightBack 97 = .ok (.invokevirtual 279, 3) := by decide +kernel
theorem dX10_lightBack_100 : decode cX10_lightBack 100 = .ok (.istore 8, 2) := by decide +kernel
theorem dX10_lightBack_102 : decode cX10_lightBack 102 = .ok (.aload_n 0, 1) := by decide +kernel
theorem dX10_lightBack_103 : decode cX10_lightBack 103 = .ok (.iload_n 3, 1) := by decide +kernel
theorem dX10_lightBack_104 : decode cX10_lightBack 104 = .ok (.iload 6, 2) := by decide +kernel
theorem dX10_lightBack_106 : decode cX10_lightBack 106 = .ok (.iload 7, 2) := by decide +kernel
theorem dX10_lightBack_108 : decode cX10_lightBack 108 = .ok (.invokevirtual 282, 3) := by decide +kernel
theorem dX10_lightBack_111 : decode cX10_lightBack 111 = .ok (.ifCond .ne 5, 3) := by decide +kernel
theorem dX10_lightBack_114 : decode cX10_lightBack 114 = .ok (.iconst (-1), 1) := by decide +kernel
theorem dX10_lightBack_115 : decode cX10_lightBack 115 = .ok (.ireturn, 1) := by decide +kernel
theorem dX10_lightBack_116 : decode cX10_lightBack 116 = .ok (.iload 5, 2) := by decide +kernel
theorem dX10_lightBack_118 : decode cX10_lightBack 118 = .ok (.ifCond .eq 10, 3) := by decide +kernel
theorem dX10_lightBack_121 : decode cX10_lightBack 121 = .ok (.iload 8, 2) := by decide +kernel
theorem dX10_lightBack_123 : decode cX10_lightBack 123 = .ok (.iconst 1, 1) := by decide +kernel
theorem dX10_lightBack_124 : decode cX10_lightBack 124 = .ok (.isub, 1) := by decide +kernel
theorem dX10_lightBack_125 : decode cX10_lightBack 125 = .ok (.goto 5, 3) := by decide +kernel
theorem dX10_lightBack_128 : decode cX10_lightBack 128 = .ok (.iload 7, 2) := by decide +kernel
theorem dX10_lightBack_130 : decode cX10_lightBack 130 = .ok (.ireturn, 1) := by decide +kernel
theorem dX10_look_0 : decode cX10_look 0 = .ok (.aload_n 0, 1) := by decide +kernel
theorem dX10_look_1 : decode cX10_look 1 = .ok (.iload_n 1, 1) := by decide +kernel
theorem dX10_look_2 : decode cX10_look 2 = .ok (.invokevirtual 193, 3) := by decide +kernel
theorem dX10_look_5 : decode cX10_look 5 = .ok (.ifCond .eq 30, 3) := by decide +kernel
theorem dX10_look_8 : decode cX10_look 8 = .ok (.aload_n 0, 1) := by decide +kernel
theorem dX10_look_9 : decode cX10_look 9 = .ok (.iload_n 2, 1) := by decide +kernel
theorem dX10_look_10 : decode cX10_look 10 = .ok (.invokevirtual 196, 3) := by decide +kernel
theorem dX10_look_13 : decode cX10_look 13 = .ok (.ifCond .eq 22, 3) := by decide +kernel
theorem dX10_look_16 : decode cX10_look 16 = .ok (.iload_n 3, 1) := by decide +kernel
theorem dX10_look_17 : decode cX10_look 17 = .ok (.invokestatic 170, 3) := by decide +kernel
theorem dX10_look_20 : decode cX10_look 20 = .ok (.ifCond .eq 15, 3) := by decide +kernel
theorem dX10_look_23 : decode cX10_look 23 = .ok (.iload 4, 2) := by decide +kernel
theorem dX10_look_25 : decode cX10_look 25 = .ok (.iload 5, 2) := by decide +kernel
theorem dX10_look_27 : decode cX10_look 27 = .ok (.iload 6, 2) := by decide +kernel
theorem dX10_look_29 : decode cX10_look 29 = .ok (.invokestatic 199, 3) := by decide +kernel
theorem dX10_look_32 : decode cX10_look 32 = .ok (.ifCond .ne 6, 3) := by decide +kernel
theorem dX10_look_35 : decode cX10_look 35 = .ok (.bipush (-2), 2) := by decide +kernel
theorem dX10_look_37 : decode cX10_look 37 = .ok (.ireturn, 1) := by decide +kernel
theorem dX10_look_38 : decode cX10_look 38 = .ok (.aload_n 0, 1) := by decide +kernel
theorem dX10_look_39 : decode cX10_look 39 = .ok (.getfield 44, 3) := by decide +kernel
theorem dX10_look_42 : decode cX10_look 42 = .ok (.getfield 202, 3) := by decide +kernel
theorem dX10_look_45 : decode cX10_look 45 = .ok (.bipush 90, 2) := by decide +kernel
theorem dX10_look_47 : decode cX10_look 47 = .ok (.if_icmp .lt 6, 3) := by decide +kernel
theorem dX10_look_50 : decode cX10_look 50 = .ok (.bipush (-3), 2) := by decide +kernel
theorem dX10_look_52 : decode cX10_look 52 = .ok (.ireturn, 1) := by decide +kernel
theorem dX10_look_53 : decode cX10_look 53 = .ok (.aload_n 0, 1) := by decide +kernel
theorem dX10_look_54 : decode cX10_look 54 = .ok (.getfield 44, 3) := by decide +kernel
theorem dX10_look_57 : decode cX10_look 57 = .ok (.iload_n 1, 1) := by decide +kernel
theorem dX10_look_58 : decode cX10_look 58 = .ok (.iload_n 2, 1) := by decide +kernel
theorem dX10_look_59 : decode cX10_look 59 = .ok (.iload_n 3, 1) := by decide +kernel
theorem dX10_look_60 : decode cX10_look 60 = .ok (.iload 4, 2) := by decide +kernel
theorem dX10_look_62 : decode cX10_look 62 = .ok (.iload 5, 2) := by decide +kernel
theorem dX10_look_64 : decode cX10_look 64 = .ok (.iload 6, 2) := by decide +kernel
theorem dX10_look_66 : decode cX10_look 66 = .ok (.invokevirtual 205, 3) := by decide +kernel
theorem dX10_look_69 : decode cX10_look 69 = .ok (.aload_n 0, 1) := by decide +kernel
theorem dX10_look_70 : decode cX10_look 70 = .ok (.getfield 44, 3) := by decide +kernel
theorem dX10_look_73 : decode cX10_look 73 = .ok (.getfield 202, 3) := by decide +kernel
theorem dX10_look_76 : decode cX10_look 76 = .ok (.ireturn, 1) := by decide +kernel
theorem dX10_mayBe_0 : decode cX10_mayBe 0 = .ok (.iconst 0, 1) := by decide +kernel
theorem dX10_mayBe_1 : decode cX10_mayBe 1 = .ok (.istore_n 3, 1) := by decide +kernel
theorem dX10_mayBe_2 : decode cX10_mayBe 2 = .ok (.iload_n 3, 1) := by decide +kernel
theorem dX10_mayBe_3 : decode cX10_mayBe 3 = .ok (.aload_n 0, 1) := by decide +kernel
theorem dX10_mayBe_4 : decode cX10_mayBe 4 = .ok (.getfield 24, 3) := by decide +kernel
theorem dX10_mayBe_7 : decode cX10_mayBe 7 = .ok (.getfield 110, 3) := by decide +kernel
theorem dX10_mayBe_10 : decode cX10_mayBe 10 = .ok (.invokevirtual 296, 3) := by decide +kernel
theorem dX10_mayBe_13 : decode cX10_mayBe 13 = .ok (.if_icmp .ge 43, 3) := by decide +kernel
theorem dX10_mayBe_16 : decode cX10_mayBe 16 = .ok (.aload_n 0, 1) := by decide +kernel
theorem dX10_mayBe_17 : decode cX10_mayBe 17 = .ok (.getfield 44, 3) := by decide +kernel
theorem dX10_mayBe_20 : decode cX10_mayBe 20 = .ok (.iload_n 3, 1) := by decide +kernel
theorem dX10_mayBe_21 : decode cX10_mayBe 21 = .ok (.iload_n 2, 1) := by decide +kernel
theorem dX10_mayBe_22 : decode cX10_mayBe 22 = .ok (.invokevirtual 306, 3) := by decide +kernel
theorem dX10_mayBe_25 : decode cX10_mayBe 25 = .ok (.ifCond .ne 25, 3) := by decide +kernel
theorem dX10_mayBe_28 : decode cX10_mayBe 28 = .ok (.aload_n 0, 1) := by decide +kernel
theorem dX10_mayBe_29 : decode cX10_mayBe 29 = .ok (.getfield 57, 3) := by decide +kernel
theorem dX10_mayBe_32 : decode cX10_mayBe 32 = .ok (.iload_n 3, 1) := by decide +kernel
theorem dX10_mayBe_33 : decode cX10_mayBe 33 = .ok (.iload_n 1, 1) := by decide +kernel
theorem dX10_mayBe_34 : decode cX10_mayBe 34 = .ok (.iload_n 2, 1) := by decide +kernel
theorem dX10_mayBe_35 : decode cX10_mayBe 35 = .ok (.invokevirtual 241, 3) := by decide +kernel
theorem dX10_mayBe_38 : decode cX10_mayBe 38 = .ok (.aload_n 0, 1) := by decide +kernel
theorem dX10_mayBe_39 : decode cX10_mayBe 39 = .ok (.getfield 57, 3) := by decide +kernel
theorem dX10_mayBe_42 : decode cX10_mayBe 42 = .ok (.getfield 245, 3) := by decide +kernel
theorem dX10_mayBe_45 : decode cX10_mayBe 45 = .ok (.ifCond .ne 5, 3) := by decide +kernel
theorem dX10_mayBe_48 : decode cX10_mayBe 48 = .ok (.iconst 0, 1) := by decide +kernel
theorem dX10_mayBe_49 : decode cX10_mayBe 49 = .ok (.ireturn, 1) := by decide +kernel
theorem dX10_mayBe_50 : decode cX10_mayBe 50 = .ok (.iinc 3 1, 3) := by decide +kernel
theorem dX10_mayBe_53 : decode cX10_mayBe 53 = .ok (.goto (-51), 3) := by decide +kernel
theorem dX10_mayBe_56 : decode cX10_mayBe 56 = .ok (.iconst 1, 1) := by decide +kernel
theorem dX10_mayBe_57 : decode cX10_mayBe 57 = .ok (.ireturn, 1) := by decide +kernel
theorem dX10_mended_0 : decode cX10_mended 0 = .ok (.aload_n 0, 1) := by decide +kernel
theorem dX10_mended_1 : decode cX10_mended 1 = .ok (.iload_n 1, 1) := by decide +kernel
theorem dX10_mended_2 : decode cX10_mended 2 = .ok (.iload_n 2, 1) := by decide +kernel
theorem dX10_mended_3 : decode cX10_mended 3 = .ok (.iload_n 3, 1) := by decide +kernel
theorem dX10_mended_4 : decode cX10_mended 4 = .ok (.invokevirtual 238, 3) := by decide +kernel
theorem dX10_mended_7 : decode cX10_mended 7 = .ok (.ifCond .ne 6, 3) := by decide +kernel
theorem dX10_mended_10 : decode cX10_mended 10 = .ok (.bipush (-2), 2) := by decide +kernel
theorem dX10_mended_12 : decode cX10_mended 12 = .ok (.ireturn, 1) := by decide +kernel
theorem dX10_mended_13 : decode cX10_mended 13 = .ok (.aload_n 0, 1) := by decide +kernel
theorem dX10_mended_14 : decode cX10_mended 14 = .ok (.getfield 57, 3) := by decide +kernel
theorem dX10_mended_17 : decode cX10_mended 17 = .ok (.iload_n 1, 1) := by decide +kernel
theorem dX10_mended_18 : decode cX10_mended 18 = .ok (.iload_n 2, 1) := by decide +kernel
theorem dX10_mended_19 : decode cX10_mended 19 = .ok (.iload_n 3, 1) := by decide +kernel
theorem dX10_mended_20 : decode cX10_mended 20 = .ok (.invokevirtual 241, 3) := by decide +kernel
theorem dX10_mended_23 : decode cX10_mended 23 = .ok (.aload_n 0, 1) := by decide +kernel
theorem dX10_mended_24 : decode cX10_mended 24 = .ok (.getfield 57, 3) := by decide +kernel
theorem dX10_mended_27 : decode cX10_mended 27 = .ok (.getfield 245, 3) := by decide +kernel
theorem dX10_mended_30 : decode cX10_mended 30 = .ok (.ifCond .ne 5, 3) := by decide +kernel
theorem dX10_mended_33 : decode cX10_mended 33 = .ok (.iconst (-1), 1) := by decide +kernel
theorem dX10_mended_34 : decode cX10_mended 34 = .ok (.ireturn, 1) := by decide +kernel
theorem dX10_mended_35 : decode cX10_mended 35 = .ok (.aload_n 0, 1) := by decide +kernel
theorem dX10_mended_36 : decode cX10_mended 36 = .ok (.getfield 57, 3) := by decide +kernel
theorem dX10_mended_39 : decode cX10_mended 39 = .ok (.getfield 270, 3) := by decide +kernel
theorem dX10_mended_42 : decode cX10_mended 42 = .ok (.aload_n 0, 1) := by decide +kernel
theorem dX10_mended_43 : decode cX10_mended 43 = .ok (.getfield 57, 3) := by decide +kernel
theorem dX10_mended_46 : decode cX10_mended 46 = .ok (.getfield 245, 3) := by decide +kernel
theorem dX10_mended_49 : decode cX10_mended 49 = .ok (.if_icmp .ne 5, 3) := by decide +kernel
theorem dX10_mended_52 : decode cX10_mended 52 = .ok (.iconst 0, 1) := by decide +kernel
theorem dX10_mended_53 : decode cX10_mended 53 = .ok (.ireturn, 1) := by decide +kernel
theorem dX10_mended_54 : decode cX10_mended 54 = .ok (.aload_n 0, 1) := by decide +kernel
theorem dX10_mended_55 : decode cX10_mended 55 = .ok (.getfield 57, 3) := by decide +kernel
theorem dX10_mended_58 : decode cX10_mended 58 = .ok (.getfield 270, 3) := by decide +kernel
theorem dX10_mended_61 : decode cX10_mended 61 = .ok (.ifCond .ne 7, 3) := by decide +kernel
theorem dX10_mended_64 : decode cX10_mended 64 = .ok (.iconst 1, 1) := by decide +kernel
theorem dX10_mended_65 : decode cX10_mended 65 = .ok (.goto 4, 3) := by decide +kernel
theorem dX10_mended_68 : decode cX10_mended 68 = .ok (.iconst 2, 1) := by decide +kernel
theorem dX10_mended_69 : decode cX10_mended 69 = .ok (.ireturn, 1) := by decide +kernel
theorem dX4_addYear_0 : decode cX4_addYear 0 = .ok (.iconst 0, 1) := by decide +kernel
theorem dX4_addYear_1 : decode cX4_addYear 1 = .ok (.istore_n 3, 1) := by decide +kernel
theorem dX4_addYear_2 : decode cX4_addYear 2 = .ok (.iload_n 3, 1) := by decide +kernel
theorem dX4_addYear_3 : decode cX4_addYear 3 = .ok (.aload_n 1, 1) := by decide +kernel
theorem dX4_addYear_4 : decode cX4_addYear 4 = .ok (.getfield 21, 3) := by decide +kernel
theorem dX4_addYear_7 : decode cX4_addYear 7 = .ok (.getfield 66, 3) := by decide +kernel
theorem dX4_addYear_10 : decode cX4_addYear 10 = .ok (.if_icmp .ge 92, 3) := by decide +kernel
theorem dX4_addYear_13 : decode cX4_addYear 13 = .ok (.aload_n 1, 1) := by decide +kernel
theorem dX4_addYear_14 : decode cX4_addYear 14 = .ok (.getfield 69, 3) := by decide +kernel
theorem dX4_addYear_17 : decode cX4_addYear 17 = .ok (.iload_n 3, 1) := by decide +kernel
theorem dX4_addYear_18 : decode cX4_addYear 18 = .ok (.iaload, 1) := by decide +kernel
theorem dX4_addYear_19 : decode cX4_addYear 19 = .ok (.iload_n 2, 1) := by decide +kernel
theorem dX4_addYear_20 : decode cX4_addYear 20 = .ok (.ishr, 1) := by decide +kernel
theorem dX4_addYear_21 : decode cX4_addYear 21 = .ok (.iconst 1, 1) := by decide +kernel
theorem dX4_addYear_22 : decode cX4_addYear 22 = .ok (.iand, 1) := by decide +kernel
theorem dX4_addYear_23 : decode cX4_addYear 23 = .ok (.ifCond .eq 73, 3) := by decide +kernel
theorem dX4_addYear_26 : decode cX4_addYear 26 = .ok (.aload_n 0, 1) := by decide +kernel
theorem dX4_addYear_27 : decode cX4_addYear 27 = .ok (.getfield 17, 3) := by decide +kernel
theorem dX4_addYear_30 : decode cX4_addYear 30 = .ok (.aload_n 0, 1) := by decide +kernel
theorem dX4_addYear_31 : decode cX4_addYear 31 = .ok (.getfield 11, 3) := by decide +kernel
theorem dX4_addYear_34 : decode cX4_addYear 34 = .ok (.arraylength, 1) := by decide +kernel
theorem dX4_addYear_35 : decode cX4_addYear 35 = .ok (.if_icmp .ge 61, 3) := by decide +kernel
theorem dX4_addYear_38 : decode cX4_addYear 38 = .ok (.aload_n 1, 1) := by decide +kernel
theorem dX4_addYear_39 : decode cX4_addYear 39 = .ok (.getfield 45, 3) := by decide +kernel
theorem dX4_addYear_42 : decode cX4_addYear 42 = .ok (.iload_n 3, 1) := by decide +kernel
theorem dX4_addYear_43 : decode cX4_addYear 43 = .ok (.iconst 0, 1) := by decide +kernel
theorem dX4_addYear_44 : decode cX4_addYear 44 = .ok (.invokevirtual 72, 3) := by decide +kernel
theorem dX4_addYear_47 : decode cX4_addYear 47 = .ok (.bipush 100, 2) := by decide +kernel
theorem dX4_addYear_49 : decode cX4_addYear 49 = .ok (.imul, 1) := by decide +kernel
theorem dX4_addYear_50 : decode cX4_addYear 50 = .ok (.aload_n 1, 1) := by decide +kernel
theorem dX4_addYear_51 : decode cX4_addYear 51 = .ok (.getfield 45, 3) := by decide +kernel
theorem dX4_addYear_54 : decode cX4_addYear 54 = .ok (.iload_n 3, 1) := by decide +kernel
theorem dX4_addYear_55 : decode cX4_addYear 55 = .ok (.iconst 1, 1) := by decide +kernel
theorem dX4_addYear_56 : decode cX4_addYear 56 = .ok (.invokevirtual 72, 3) := by decide +kernel
theorem dX4_addYear_59 : decode cX4_addYear 59 = .ok (.iadd, 1) := by decide +kernel
theorem dX4_addYear_60 : decode cX4_addYear 60 = .ok (.istore 4, 2) := by decide +kernel
theorem dX4_addYear_62 : decode cX4_addYear 62 = .ok (.aload_n 0, 1) := by decide +kernel
theorem dX4_addYear_63 : decode cX4_addYear 63 = .ok (.getfield 11, 3) := by decide +kernel
theorem dX4_addYear_66 : decode cX4_addYear 66 = .ok (.aload_n 0, 1) := by decide +kernel
theorem dX4_addYear_67 : decode cX4_addYear 67 = .ok (.getfield 17, 3) := by decide +kernel
theorem dX4_addYear_70 : decode cX4_addYear 70 = .ok (.iload 4, 2) := by decide +kernel
theorem dX4_addYear_72 : decode cX4_addYear 72 = .ok (.bipush 100, 2) := by decide +kernel
theorem dX4_addYear_74 : decode cX4_addYear 74 = .ok (.imul, 1) := by decide +kernel
theorem dX4_addYear_75 : decode cX4_addYear 75 = .ok (.aload_n 1, 1) := by decide +kernel
theorem dX4_addYear_76 : decode cX4_addYear 76 = .ok (.getfield 45, 3) := by decide +kernel
theorem dX4_addYear_79 : decode cX4_addYear 79 = .ok (.iload_n 3, 1) := by decide +kernel
theorem dX4_addYear_80 : decode cX4_addYear 80 = .ok (.iconst 2, 1) := by decide +kernel
theorem dX4_addYear_81 : decode cX4_addYear 81 = .ok (.invokevirtual 72, 3) := by decide +kernel
theorem dX4_addYear_84 : decode cX4_addYear 84 = .ok (.iadd, 1) := by decide +kernel
theorem dX4_addYear_85 : decode cX4_addYear 85 = .ok (.iastore, 1) := by decide +kernel
theorem dX4_addYear_86 : decode cX4_addYear 86 = .ok (.aload_n 0, 1) := by decide +kernel
theorem dX4_addYear_87 : decode cX4_addYear 87 = .ok (.dup, 1) := by decide +kernel
theorem dX4_addYear_88 : decode cX4_addYear 88 = .ok (.getfield 17, 3) := by decide +kernel
theorem dX4_addYear_91 : decode cX4_addYear 91 = .ok (.iconst 1, 1) := by decide +kernel
theorem dX4_addYear_92 : decode cX4_addYear 92 = .ok (.iadd, 1) := by decide +kernel
theorem dX4_addYear_93 : decode cX4_addYear 93 = .ok (.putfield 17, 3) := by decide +kernel
theorem dX4_addYear_96 : decode cX4_addYear 96 = .ok (.iinc 3 1, 3) := by decide +kernel
theorem dX4_addYear_99 : decode cX4_addYear 99 = .ok (.goto (-97), 3) := by decide +kernel
theorem dX4_addYear_102 : decode cX4_addYear 102 = .ok (.return_, 1) := by decide +kernel
theorem dX4_longestRun_0 : decode cX4_longestRun 0 = .ok (.iconst 0, 1) := by decide +kernel
theorem dX4_longestRun_1 : decode cX4_longestRun 1 = .ok (.istore_n 1, 1) := by decide +kernel
theorem dX4_longestRun_2 : decode cX4_longestRun 2 = .ok (.iconst 0, 1) := by decide +kernel
theorem dX4_longestRun_3 : decode cX4_longestRun 3 = .ok (.istore_n 2, 1) := by decide +kernel
theorem dX4_longestRun_4 : decode cX4_longestRun 4 = .ok (.iconst 0, 1) := by decide +kernel
theorem dX4_longestRun_5 : decode cX4_longestRun 5 = .ok (.istore_n 3, 1) := by decide +kernel
theorem dX4_longestRun_6 : decode cX4_longestRun 6 = .ok (.iload_n 3, 1) := by decide +kernel
theorem dX4_longestRun_7 : decode cX4_longestRun 7 = .ok (.aload_n 0, 1) := by decide +kernel
theorem dX4_longestRun_8 : decode cX4_longestRun 8 = .ok (.getfield 17, 3) := by decide +kernel
theorem dX4_longestRun_11 : decode cX4_longestRun 11 = .ok (.if_icmp .ge 44, 3) := by decide +kernel
theorem dX4_longestRun_14 : decode cX4_longestRun 14 = .ok (.iload_n 3, 1) := by decide +kernel
theorem dX4_longestRun_15 : decode cX4_longestRun 15 = .ok (.ifCond .le 26, 3) := by decide +kernel
theorem dX4_longestRun_18 : decode cX4_longestRun 18 = .ok (.aload_n 0, 1) := by decide +kernel
theorem dX4_longestRun_19 : decode cX4_longestRun 19 = .ok (.getfield 11, 3) := by decide +kernel
theorem dX4_longestRun_22 : decode cX4_longestRun 22 = .ok (.iload_n 3, 1) := by decide +kernel
theorem dX4_longestRun_23 : decode cX4_longestRun 23 = .ok (.iaload, 1) := by decide +kernel
theorem dX4_longestRun_24 : decode cX4_longestRun 24 = .ok (.aload_n 0, 1) := by decide +kernel
theorem dX4_longestRun_25 : decode cX4_longestRun 25 = .ok (.getfield 11, 3) := by decide +kernel
theorem dX4_longestRun_28 : decode cX4_longestRun 28 = .ok (.iload_n 3, 1) := by decide +kernel
theorem dX4_longestRun_29 : decode cX4_longestRun 29 = .ok (.iconst 1, 1) := by decide +kernel
theorem dX4_longestRun_30 : decode cX4_longestRun 30 = .ok (.isub, 1) := by decide +kernel
theorem dX4_longestRun_31 : decode cX4_longestRun 31 = .ok (.iaload, 1) := by decide +kernel
theorem dX4_longestRun_32 : decode cX4_longestRun 32 = .ok (.if_icmp .ne 9, 3) := by decide +kernel
theorem dX4_longestRun_35 : decode cX4_longestRun 35 = .ok (.iload_n 2, 1) := by decide +kernel
theorem dX4_longestRun_36 : decode cX4_longestRun 36 = .ok (.iconst 1, 1) := by decide +kernel
theorem dX4_longestRun_37 : decode cX4_longestRun 37 = .ok (.iadd, 1) := by decide +kernel
theorem dX4_longestRun_38 : decode cX4_longestRun 38 = .ok (.goto 4, 3) := by decide +kernel
theorem dX4_longestRun_41 : decode cX4_longestRun 41 = .ok (.iconst 1, 1) := by decide +kernel
theorem dX4_longestRun_42 : decode cX4_longestRun 42 = .ok (.istore_n 2, 1) := by decide +kernel
theorem dX4_longestRun_43 : decode cX4_longestRun 43 = .ok (.iload_n 1, 1) := by decide +kernel
theorem dX4_longestRun_44 : decode cX4_longestRun 44 = .ok (.iload_n 2, 1) := by decide +kernel
theorem dX4_longestRun_45 : decode cX4_longestRun 45 = .ok (.invokestatic 76, 3) := by decide +kernel
theorem dX4_longestRun_48 : decode cX4_longestRun 48 = .ok (.istore_n 1, 1) := by decide +kernel
theorem dX4_longestRun_49 : decode cX4_longestRun 49 = .ok (.iinc 3 1, 3) := by decide +kernel
theorem dX4_longestRun_52 : decode cX4_longestRun 52 = .ok (.goto (-46), 3) := by decide +kernel
theorem dX4_longestRun_55 : decode cX4_longestRun 55 = .ok (.iload_n 1, 1) := by decide +kernel
theorem dX4_longestRun_56 : decode cX4_longestRun 56 = .ok (.ireturn, 1) := by decide +kernel
theorem dX4_sink_0 : decode cX4_sink 0 = .ok (.iload_n 1, 1) := by decide +kernel
theorem dX4_sink_1 : decode cX4_sink 1 = .ok (.istore_n 3, 1) := by decide +kernel
theorem dX4_sink_2 : decode cX4_sink 2 = .ok (.aload_n 0, 1) := by decide +kernel
theorem dX4_sink_3 : decode cX4_sink 3 = .ok (.getfield 11, 3) := by decide +kernel
theorem dX4_sink_6 : decode cX4_sink 6 = .ok (.iload_n 1, 1) := by decide +kernel
theorem dX4_sink_7 : decode cX4_sink 7 = .ok (.iaload, 1) := by decide +kernel
theorem dX4_sink_8 : decode cX4_sink 8 = .ok (.istore 4, 2) := by decide +kernel
theorem dX4_sink_10 : decode cX4_sink 10 = .ok (.iconst 0, 1) := by decide +kernel
theorem dX4_sink_11 : decode cX4_sink 11 = .ok (.istore 5, 2) := by decide +kernel
theorem dX4_sink_13 : decode cX4_sink 13 = .ok (.iload 5, 2) := by decide +kernel
theorem dX4_sink_15 : decode cX4_sink 15 = .ok (.bipush 24, 2) := by decide +kernel
theorem dX4_sink_17 : decode cX4_sink 17 = .ok (.if_icmp .ge 86, 3) := by decide +kernel
theorem dX4_sink_20 : decode cX4_sink 20 = .ok (.iconst 2, 1) := by decide +kernel
theorem dX4_sink_21 : decode cX4_sink 21 = .ok (.iload_n 3, 1) := by decide +kernel
theorem dX4_sink_22 : decode cX4_sink 22 = .ok (.imul, 1) := by decide +kernel
theorem dX4_sink_23 : decode cX4_sink 23 = .ok (.iconst 1, 1) := by decide +kernel
theorem dX4_sink_24 : decode cX4_sink 24 = .ok (.iadd, 1) := by decide +kernel
theorem dX4_sink_25 : decode cX4_sink 25 = .ok (.iload_n 2, 1) := by decide +kernel
theorem dX4_sink_26 : decode cX4_sink 26 = .ok (.if_icmp .ge 77, 3) := by decide +kernel
theorem dX4_sink_29 : decode cX4_sink 29 = .ok (.iconst 2, 1) := by decide +kernel
theorem dX4_sink_30 : decode cX4_sink 30 = .ok (.iload_n 3, 1) := by decide +kernel
theorem dX4_sink_31 : decode cX4_sink 31 = .ok (.imul, 1) := by decide +kernel
theorem dX4_sink_32 : decode cX4_sink 32 = .ok (.iconst 1, 1) := by decide +kernel
theorem dX4_sink_33 : decode cX4_sink 33 = .ok (.iadd, 1) := by decide +kernel
theorem dX4_sink_34 : decode cX4_sink 34 = .ok (.istore 6, 2) := by decide +kernel
theorem dX4_sink_36 : decode cX4_sink 36 = .ok (.iload 6, 2) := by decide +kernel
theorem dX4_sink_38 : decode cX4_sink 38 = .ok (.iconst 1, 1) := by decide +kernel
theorem dX4_sink_39 : decode cX4_sink 39 = .ok (.iadd, 1) := by decide +kernel
theorem dX4_sink_40 : decode cX4_sink 40 = .ok (.iload_n 2, 1) := by decide +kernel
theorem dX4_sink_41 : decode cX4_sink 41 = .ok (.if_icmp .ge 25, 3) := by decide +kernel
theorem dX4_sink_44 : decode cX4_sink 44 = .ok (.aload_n 0, 1) := by decide +kernel
theorem dX4_sink_45 : decode cX4_sink 45 = .ok (.getfield 11, 3) := by decide +kernel
theorem dX4_sink_48 : decode cX4_sink 48 = .ok (.iload 6, 2) := by decide +kernel
theorem dX4_sink_50 : decode cX4_sink 50 = .ok (.iconst 1, 1) := by decide +kernel
theorem dX4_sink_51 : decode cX4_sink 51 = .ok (.iadd, 1) := by decide +kernel
theorem dX4_sink_52 : decode cX4_sink 52 = .ok (.iaload, 1) := by decide +kernel
theorem dX4_sink_53 : decode cX4_sink 53 = .ok (.aload_n 0, 1) := by decide +kernel
theorem dX4_sink_54 : decode cX4_sink 54 = .ok (.getfield 11, 3) := by decide +kernel
theorem dX4_sink_57 : decode cX4_sink 57 = .ok (.iload 6, 2) := by decide +kernel
theorem dX4_sink_59 : decode cX4_sink 59 = .ok (.iaload, 1) := by decide +kernel
theorem dX4_sink_60 : decode cX4_sink 60 = .ok (.if_icmp .le 6, 3) := by decide +kernel
theorem dX4_sink_63 : decode cX4_sink 63 = .ok (.iinc 6 1, 3) := by decide +kernel
theorem dX4_sink_66 : decode cX4_sink 66 = .ok (.aload_n 0, 1) := by decide +kernel
theorem dX4_sink_67 : decode cX4_sink 67 = .ok (.getfield 11, 3) := by decide +kernel
theorem dX4_sink_70 : decode cX4_sink 70 = .ok (.iload 6, 2) := by decide +kernel
theorem dX4_sink_72 : decode cX4_sink 72 = .ok (.iaload, 1) := by decide +kernel
theorem dX4_sink_73 : decode cX4_sink 73 = .ok (.iload 4, 2) := by decide +kernel
theorem dX4_sink_75 : decode cX4_sink 75 = .ok (.if_icmp .gt 6, 3) := by decide +kernel
theorem dX4_sink_78 : decode cX4_sink 78 = .ok (.goto 25, 3) := by decide +kernel
theorem dX4_sink_81 : decode cX4_sink 81 = .ok (.aload_n 0, 1) := by decide +kernel
theorem dX4_sink_82 : decode cX4_sink 82 = .ok (.getfield 11, 3) := by decide +kernel
theorem dX4_sink_85 : decode cX4_sink 85 = .ok (.iload_n 3, 1) := by decide +kernel
theorem dX4_sink_86 : decode cX4_sink 86 = .ok (.aload_n 0, 1) := by decide +kernel
theorem dX4_sink_87 : decode cX4_sink 87 = .ok (.getfield 11, 3) := by decide +kernel
theorem dX4_sink_90 : decode cX4_sink 90 = .ok (.iload 6, 2) := by decide +kernel
theorem dX4_sink_92 : decode cX4_sink 92 = .ok (.iaload, 1) := by decide +kernel
theorem dX4_sink_93 : decode cX4_sink 93 = .ok (.iastore, 1) := by decide +kernel
theorem dX4_sink_94 : decode cX4_sink 94 = .ok (.iload 6, 2) := by decide +kernel
theorem dX4_sink_96 : decode cX4_sink 96 = .ok (.istore_n 3, 1) := by decide +kernel
theorem dX4_sink_97 : decode cX4_sink 97 = .ok (.iinc 5 1, 3) := by decide +kernel
theorem dX4_sink_100 : decode cX4_sink 100 = .ok (.goto (-87), 3) := by decide +kernel
theorem dX4_sink_103 : decode cX4_sink 103 = .ok (.aload_n 0, 1) := by decide +kernel
theorem dX4_sink_104 : decode cX4_sink 104 = .ok (.getfield 11, 3) := by decide +kernel
theorem dX4_sink_107 : decode cX4_sink 107 = .ok (.iload_n 3, 1) := by decide +kernel
theorem dX4_sink_108 : decode cX4_sink 108 = .ok (.iload 4, 2) := by decide +kernel
theorem dX4_sink_110 : decode cX4_sink 110 = .ok (.iastore, 1) := by decide +kernel
theorem dX4_sink_111 : decode cX4_sink 111 = .ok (.return_, 1) := by decide +kernel
theorem dX4_sort_0 : decode cX4_sort 0 = .ok (.aload_n 0, 1) := by decide +kernel
theorem dX4_sort_1 : decode cX4_sort 1 = .ok (.getfield 17, 3) := by decide +kernel
theorem dX4_sort_4 : decode cX4_sort 4 = .ok (.iconst 2, 1) := by decide +kernel
theorem dX4_sort_5 : decode cX4_sort 5 = .ok (.idiv, 1) := by decide +kernel
theorem dX4_sort_6 : decode cX4_sort 6 = .ok (.iconst 1, 1) := by decide +kernel
theorem dX4_sort_7 : decode cX4_sort 7 = .ok (.isub, 1) := by decide +kernel
theorem dX4_sort_8 : decode cX4_sort 8 = .ok (.istore_n 1, 1) := by decide +kernel
theorem dX4_sort_9 : decode cX4_sort 9 = .ok (.iload_n 1, 1) := by decide +kernel
theorem dX4_sort_10 : decode cX4_sort 10 = .ok (.ifCond .lt 18, 3) := by decide +kernel
theorem dX4_sort_13 : decode cX4_sort 13 = .ok (.aload_n 0, 1) := by decide +kernel
theorem dX4_sort_14 : decode cX4_sort 14 = .ok (.iload_n 1, 1) := by decide +kernel
theorem dX4_sort_15 : decode cX4_sort 15 = .ok (.aload_n 0, 1) := by decide +kernel
theorem dX4_sort_16 : decode cX4_sort 16 = .ok (.getfield 17, 3) := by decide +kernel
theorem dX4_sort_19 : decode cX4_sort 19 = .ok (.invokevirtual 81, 3) := by decide +kernel
theorem dX4_sort_22 : decode cX4_sort 22 = .ok (.iinc 1 (-1), 3) := by decide +kernel
theorem dX4_sort_25 : decode cX4_sort 25 = .ok (.goto (-16), 3) := by decide +kernel
theorem dX4_sort_28 : decode cX4_sort 28 = .ok (.aload_n 0, 1) := by decide +kernel
theorem dX4_sort_29 : decode cX4_sort 29 = .ok (.getfield 17, 3) := by decide +kernel
theorem dX4_sort_32 : decode cX4_sort 32 = .ok (.iconst 1, 1) := by decide +kernel
theorem dX4_sort_33 : decode cX4_sort 33 = .ok (.isub, 1) := by decide +kernel
theorem dX4_sort_34 : decode cX4_sort 34 = .ok (.istore_n 1, 1) := by decide +kernel
theorem dX4_sort_35 : decode cX4_sort 35 = .ok (.iload_n 1, 1) := by decide +kernel
theorem dX4_sort_36 : decode cX4_sort 36 = .ok (.ifCond .le 41, 3) := by decide +kernel
theorem dX4_sort_39 : decode cX4_sort 39 = .ok (.aload_n 0, 1) := by decide +kernel
theorem dX4_sort_40 : decode cX4_sort 40 = .ok (.getfield 11, 3) := by decide +kernel
theorem dX4_sort_43 : decode cX4_sort 43 = .ok (.iconst 0, 1) := by decide +kernel
theorem dX4_sort_44 : decode cX4_sort 44 = .ok (.iaload, 1) := by decide +kernel
theorem dX4_sort_45 : decode cX4_sort 45 = .ok (.istore_n 2, 1) := by decide +kernel
theorem dX4_sort_46 : decode cX4_sort 46 = .ok (.aload_n 0, 1) := by decide +kernel
theorem dX4_sort_47 : decode cX4_sort 47 = .ok (.getfield 11, 3) := by decide +kernel
theorem dX4_sort_50 : decode cX4_sort 50 = .ok (.iconst 0, 1) := by decide +kernel
theorem dX4_sort_51 : decode cX4_sort 51 = .ok (.aload_n 0, 1) := by decide +kernel
theorem dX4_sort_52 : decode cX4_sort 52 = .ok (.getfield 11, 3) := by decide +kernel
theorem dX4_sort_55 : decode cX4_sort 55 = .ok (.iload_n 1, 1) := by decide +kernel
theorem dX4_sort_56 : decode cX4_sort 56 = .ok (.iaload, 1) := by decide +kernel
theorem dX4_sort_57 : decode cX4_sort 57 = .ok (.iastore, 1) := by decide +kernel
theorem dX4_sort_58 : decode cX4_sort 58 = .ok (.aload_n 0, 1) := by decide +kernel
theorem dX4_sort_59 : decode cX4_sort 59 = .ok (.getfield 11, 3) := by decide +kernel
theorem dX4_sort_62 : decode cX4_sort 62 = .ok (.iload_n 1, 1) := by decide +kernel
theorem dX4_sort_63 : decode cX4_sort 63 = .ok (.iload_n 2, 1) := by decide +kernel
theorem dX4_sort_64 : decode cX4_sort 64 = .ok (.iastore, 1) := by decide +kernel
theorem dX4_sort_65 : decode cX4_sort 65 = .ok (.aload_n 0, 1) := by decide +kernel
theorem dX4_sort_66 : decode cX4_sort 66 = .ok (.iconst 0, 1) := by decide +kernel
theorem dX4_sort_67 : decode cX4_sort 67 = .ok (.iload_n 1, 1) := by decide +kernel
theorem dX4_sort_68 : decode cX4_sort 68 = .ok (.invokevirtual 81, 3) := by decide +kernel
theorem dX4_sort_71 : decode cX4_sort 71 = .ok (.iinc 1 (-1), 3) := by decide +kernel
theorem dX4_sort_74 : decode cX4_sort 74 = .ok (.goto (-39), 3) := by decide +kernel
theorem dX4_sort_77 : decode cX4_sort 77 = .ok (.return_, 1) := by decide +kernel
theorem dX4_mostAlike_0 : decode cX4_mostAlike 0 = .ok (.aload_n 0, 1) := by decide +kernel
theorem dX4_mostAlike_1 : decode cX4_mostAlike 1 = .ok (.iconst 0, 1) := by decide +kernel
theorem dX4_mostAlike_2 : decode cX4_mostAlike 2 = .ok (.putfield 17, 3) := by decide +kernel
theorem dX4_mostAlike_5 : decode cX4_mostAlike 5 = .ok (.aload_n 1, 1) := by decide +kernel
theorem dX4_mostAlike_6 : decode cX4_mostAlike 6 = .ok (.getfield 21, 3) := by decide +kernel
theorem dX4_mostAlike_9 : decode cX4_mostAlike 9 = .ok (.getfield 27, 3) := by decide +kernel
theorem dX4_mostAlike_12 : decode cX4_mostAlike 12 = .ok (.astore 5, 2) := by decide +kernel
theorem dX4_mostAlike_14 : decode cX4_mostAlike 14 = .ok (.iconst 0, 1) := by decide +kernel
theorem dX4_mostAlike_15 : decode cX4_mostAlike 15 = .ok (.istore 6, 2) := by decide +kernel
theorem dX4_mostAlike_17 : decode cX4_mostAlike 17 = .ok (.iload 6, 2) := by decide +kernel
theorem dX4_mostAlike_19 : decode cX4_mostAlike 19 = .ok (.aload 5, 2) := by decide +kernel
theorem dX4_mostAlike_21 : decode cX4_mostAlike 21 = .ok (.getfield 31, 3) := by decide +kernel
theorem dX4_mostAlike_24 : decode cX4_mostAlike 24 = .ok (.if_icmp .gt 50, 3) := by decide +kernel
theorem dX4_mostAlike_27 : decode cX4_mostAlike 27 = .ok (.aload 5, 2) := by decide +kernel
theorem dX4_mostAlike_29 : decode cX4_mostAlike 29 = .ok (.iload_n 3, 1) := by decide +kernel
theorem dX4_mostAlike_30 : decode cX4_mostAlike 30 = .ok (.aload 5, 2) := by decide +kernel
theorem dX4_mostAlike_32 : decode cX4_mostAlike 32 = .ok (.iload_n 2, 1) := by decide +kernel
theorem dX4_mostAlike_33 : decode cX4_mostAlike 33 = .ok (.invokevirtual 34, 3) := by decide +kernel
theorem dX4_mostAlike_36 : decode cX4_mostAlike 36 = .ok (.aload 5, 2) := by decide +kernel
theorem dX4_mostAlike_38 : decode cX4_mostAlike 38 = .ok (.iload 6, 2) := by decide +kernel
theorem dX4_mostAlike_40 : decode cX4_mostAlike 40 = .ok (.invokevirtual 38, 3) := by decide +kernel
theorem dX4_mostAlike_43 : decode cX4_mostAlike 43 = .ok (.iconst 0, 1) := by decide +kernel
theorem dX4_mostAlike_44 : decode cX4_mostAlike 44 = .ok (.invokevirtual 41, 3) := by decide +kernel
theorem dX4_mostAlike_47 : decode cX4_mostAlike 47 = .ok (.istore 7, 2) := by decide +kernel
theorem dX4_mostAlike_49 : decode cX4_mostAlike 49 = .ok (.aload_n 1, 1) := by decide +kernel
theorem dX4_mostAlike_50 : decode cX4_mostAlike 50 = .ok (.getfield 45, 3) := by decide +kernel
theorem dX4_mostAlike_53 : decode cX4_mostAlike 53 = .ok (.iload 7, 2) := by decide +kernel
theorem dX4_mostAlike_55 : decode cX4_mostAlike 55 = .ok (.iload 4, 2) := by decide +kernel
theorem dX4_mostAlike_57 : decode cX4_mostAlike 57 = .ok (.iadd, 1) := by decide +kernel
theorem dX4_mostAlike_58 : decode cX4_mostAlike 58 = .ok (.invokevirtual 49, 3) := by decide +kernel
theorem dX4_mostAlike_61 : decode cX4_mostAlike 61 = .ok (.aload_n 0, 1) := by decide +kernel
theorem dX4_mostAlike_62 : decode cX4_mostAlike 62 = .ok (.aload_n 1, 1) := by decide +kernel
theorem dX4_mostAlike_63 : decode cX4_mostAlike 63 = .ok (.iload 6, 2) := by decide +kernel
theorem dX4_mostAlike_65 : decode cX4_mostAlike 65 = .ok (.invokevirtual 55, 3) := by decide +kernel
theorem dX4_mostAlike_68 : decode cX4_mostAlike 68 = .ok (.iinc 6 1, 3) := by decide +kernel
theorem dX4_mostAlike_71 : decode cX4_mostAlike 71 = .ok (.goto (-54), 3) := by decide +kernel
theorem dX4_mostAlike_74 : decode cX4_mostAlike 74 = .ok (.aload_n 0, 1) := by decide +kernel
theorem dX4_mostAlike_75 : decode cX4_mostAlike 75 = .ok (.invokevirtual 59, 3) := by decide +kernel
theorem dX4_mostAlike_78 : decode cX4_mostAlike 78 = .ok (.aload_n 0, 1) := by decide +kernel
theorem dX4_mostAlike_79 : decode cX4_mostAlike 79 = .ok (.invokevirtual 62, 3) := by decide +kernel
theorem dX4_mostAlike_82 : decode cX4_mostAlike 82 = .ok (.ireturn, 1) := by decide +kernel
theorem dX10_next_0 : decode cX10_next 0 = .ok (.aload_n 0, 1) := by decide +kernel
theorem dX10_next_1 : decode cX10_next 1 = .ok (.iload_n 1, 1) := by decide +kernel
theorem dX10_next_2 : decode cX10_next 2 = .ok (.invokevirtual 163, 3) := by decide +kernel
theorem dX10_next_5 : decode cX10_next 5 = .ok (.ifCond .eq 14, 3) := by decide +kernel
theorem dX10_next_8 : decode cX10_next 8 = .ok (.iload_n 2, 1) := by decide +kernel
theorem dX10_next_9 : decode cX10_next 9 = .ok (.iconst 1, 1) := by decide +kernel
theorem dX10_next_10 : decode cX10_next 10 = .ok (.sipush 999, 3) := by decide +kernel
theorem dX10_next_13 : decode cX10_next 13 = .ok (.invokestatic 133, 3) := by decide +kernel
theorem dX10_next_16 : decode cX10_next 16 = .ok (.ifCond .ne 6, 3) := by decide +kernel
theorem dX10_next_19 : decode cX10_next 19 = .ok (.bipush (-2), 2) := by decide +kernel
theorem dX10_next_21 : decode cX10_next 21 = .ok (.ireturn, 1) := by decide +kernel
theorem dX10_next_22 : decode cX10_next 22 = .ok (.iconst (-1), 1) := by decide +kernel
theorem dX10_next_23 : decode cX10_next 23 = .ok (.istore_n 3, 1) := by decide +kernel
theorem dX10_next_24 : decode cX10_next 24 = .ok (.iconst 0, 1) := by decide +kernel
theorem dX10_next_25 : decode cX10_next 25 = .ok (.istore 4, 2) := by decide +kernel
theorem dX10_next_27 : decode cX10_next 27 = .ok (.iconst 0, 1) := by decide +kernel
theorem dX10_next_28 : decode cX10_next 28 = .ok (.istore 5, 2) := by decide +kernel
theorem dX10_next_30 : decode cX10_next 30 = .ok (.iconst 0, 1) := by decide +kernel
theorem dX10_next_31 : decode cX10_next 31 = .ok (.istore 6, 2) := by decide +kernel
theorem dX10_next_33 : decode cX10_next 33 = .ok (.iconst 0, 1) := by decide +kernel
theorem dX10_next_34 : decode cX10_next 34 = .ok (.istore 7, 2) := by decide +kernel
theorem dX10_next_36 : decode cX10_next 36 = .ok (.iload 7, 2) := by decide +kernel
theorem dX10_next_38 : decode cX10_next 38 = .ok (.aload_n 0, 1) := by decide +kernel
theorem dX10_next_39 : decode cX10_next 39 = .ok (.getfield 24, 3) := by decide +kernel
theorem dX10_next_42 : decode cX10_next 42 = .ok (.getfield 110, 3) := by decide +kernel
theorem dX10_next_45 : decode cX10_next 45 = .ok (.invokevirtual 296, 3) := by decide +kernel
theorem dX10_next_48 : decode cX10_next 48 = .ok (.if_icmp .ge 166, 3) := by decide +kernel
theorem dX10_next_51 : decode cX10_next 51 = .ok (.aload_n 0, 1) := by decide +kernel
theorem dX10_next_52 : decode cX10_next 52 = .ok (.getfield 44, 3) := by decide +kernel
theorem dX10_next_55 : decode cX10_next 55 = .ok (.iload 7, 2) := by decide +kernel
theorem dX10_next_57 : decode cX10_next 57 = .ok (.sipush 999, 3) := by decide +kernel
theorem dX10_next_60 : decode cX10_next 60 = .ok (.invokevirtual 306, 3) := by decide +kernel
theorem dX10_next_63 : decode cX10_next 63 = .ok (.ifCond .eq 50, 3) := by decide +kernel
theorem dX10_next_66 : decode cX10_next 66 = .ok (.iconst 1, 1) := by decide +kernel
theorem dX10_next_67 : decode cX10_next 67 = .ok (.aload_n 0, 1) := by decide +kernel
theorem dX10_next_68 : decode cX10_next 68 = .ok (.getfield 24, 3) := by decide +kernel
theorem dX10_next_71 : decode cX10_next 71 = .ok (.getfield 110, 3) := by decide +kernel
theorem dX10_next_74 : decode cX10_next 74 = .ok (.iload 7, 2) := by decide +kernel
theorem dX10_next_76 : decode cX10_next 76 = .ok (.invokevirtual 309, 3) := by decide +kernel
theorem dX10_next_79 : decode cX10_next 79 = .ok (.ishl, 1) := by decide +kernel
theorem dX10_next_80 : decode cX10_next 80 = .ok (.istore 8, 2) := by decide +kernel
theorem dX10_next_82 : decode cX10_next 82 = .ok (.iload 6, 2) := by decide +kernel
theorem dX10_next_84 : decode cX10_next 84 = .ok (.iload 8, 2) := by decide +kernel
theorem dX10_next_86 : decode cX10_next 86 = .ok (.iand, 1) := by decide +kernel
theorem dX10_next_87 : decode cX10_next 87 = .ok (.ifCond .eq 6, 3) := by decide +kernel
theorem dX10_next_90 : decode cX10_next 90 = .ok (.goto 118, 3) := by decide +kernel
theorem dX10_next_93 : decode cX10_next 93 = .ok (.iload 6, 2) := by decide +kernel
theorem dX10_next_95 : decode cX10_next 95 = .ok (.aload_n 0, 1) := by decide +kernel
theorem dX10_next_96 : decode cX10_next 96 = .ok (.iload 7, 2) := by decide +kernel
theorem dX10_next_98 : decode cX10_next 98 = .ok (.invokevirtual 312, 3) := by decide +kernel
theorem dX10_next_101 : decode cX10_next 101 = .ok (.ifCond .eq 7, 3) := by decide +kernel
theorem dX10_next_104 : decode cX10_next 104 = .ok (.iconst 0, 1) := by decide +kernel
theorem dX10_next_105 : decode cX10_next 105 = .ok (.goto 5, 3) := by decide +kernel
theorem dX10_next_108 : decode cX10_next 108 = .ok (.iload 8, 2) := by decide +kernel
theorem dX10_next_110 : decode cX10_next 110 = .ok (.ior, 1) := by decide +kernel
theorem dX10_next_111 : decode cX10_next 111 = .ok (.istore 6, 2) := by decide +kernel
theorem dX10_next_113 : decode cX10_next 113 = .ok (.aload_n 0, 1) := by decide +kernel
theorem dX10_next_114 : decode cX10_next 114 = .ok (.iload 7, 2) := by decide +kernel
theorem dX10_next_116 : decode cX10_next 116 = .ok (.invokevirtual 312, 3) := by decide +kernel
theorem dX10_next_119 : decode cX10_next 119 = .ok (.ifCond .eq 6, 3) := by decide +kernel
theorem dX10_next_122 : decode cX10_next 122 = .ok (.goto 86, 3) := by decide +kernel
theorem dX10_next_125 : decode cX10_next 125 = .ok (.aload_n 0, 1) := by decide +kernel
theorem dX10_next_126 : decode cX10_next 126 = .ok (.getfield 57, 3) := by decide +kernel
theorem dX10_next_129 : decode cX10_next 129 = .ok (.iload 7, 2) := by decide +kernel
theorem dX10_next_131 : decode cX10_next 131 = .ok (.iload_n 1, 1) := by decide +kernel
theorem dX10_next_132 : decode cX10_next 132 = .ok (.sipush 999, 3) := by decide +kernel
theorem dX10_next_135 : decode cX10_next 135 = .ok (.invokevirtual 241, 3) := by decide +kernel
theorem dX10_next_138 : decode cX10_next 138 = .ok (.aload_n 0, 1) := by decide +kernel
theorem dX10_next_139 : decode cX10_next 139 = .ok (.getfield 57, 3) := by decide +kernel
theorem dX10_next_142 : decode cX10_next 142 = .ok (.getfield 248, 3) := by decide +kernel
theorem dX10_next_145 : decode cX10_next 145 = .ok (.iconst 2, 1) := by decide +kernel
theorem dX10_next_146 : decode cX10_next 146 = .ok (.if_icmp .ge 6, 3) := by decide +kernel
theorem dX10_next_149 : decode cX10_next 149 = .ok (.goto 59, 3) := by decide +kernel
theorem dX10_next_152 : decode cX10_next 152 = .ok (.aload_n 0, 1) := by decide +kernel
theorem dX10_next_153 : decode cX10_next 153 = .ok (.getfield 67, 3) := by decide +kernel
theorem dX10_next_156 : decode cX10_next 156 = .ok (.aload_n 0, 1) := by decide +kernel
theorem dX10_next_157 : decode cX10_next 157 = .ok (.getfield 57, 3) := by decide +kernel
theorem dX10_next_160 : decode cX10_next 160 = .ok (.iload 7, 2) := by decide +kernel
theorem dX10_next_162 : decode cX10_next 162 = .ok (.iload_n 1, 1) := by decide +kernel
theorem dX10_next_163 : decode cX10_next 163 = .ok (.iload_n 2, 1) := by decide +kernel
theorem dX10_next_164 : decode cX10_next 164 = .ok (.invokevirtual 315, 3) := by decide +kernel
theorem dX10_next_167 : decode cX10_next 167 = .ok (.istore 8, 2) := by decide +kernel
theorem dX10_next_169 : decode cX10_next 169 = .ok (.iload_n 3, 1) := by decide +kernel
theorem dX10_next_170 : decode cX10_next 170 = .ok (.iconst (-1), 1) := by decide +kernel
theorem dX10_next_171 : decode cX10_next 171 = .ok (.if_icmp .eq 21, 3) := by decide +kernel
theorem dX10_next_174 : decode cX10_next 174 = .ok (.iload 8, 2) := by decide +kernel
theorem dX10_next_176 : decode cX10_next 176 = .ok (.iload 5, 2) := by decide +kernel
theorem dX10_next_178 : decode cX10_next 178 = .ok (.imul, 1) := by decide +kernel
theorem dX10_next_179 : decode cX10_next 179 = .ok (.iload 4, 2) := by decide +kernel
theorem dX10_next_181 : decode cX10_next 181 = .ok (.aload_n 0, 1) := by decide +kernel
theorem dX10_next_182 : decode cX10_next 182 = .ok (.getfield 57, 3) := by decide +kernel
theorem dX10_next_185 : decode cX10_next 185 = .ok (.getfield 245, 3) := by decide +kernel
theorem dX10_next_188 : decode cX10_next 188 = .ok (.imul, 1) := by decide +kernel
theorem dX10_next_189 : decode cX10_next 189 = .ok (.if_icmp .ge 19, 3) := by decide +kernel
theorem dX10_next_192 : decode cX10_next 192 = .ok (.iload 7, 2) := by decide +kernel
theorem dX10_next_194 : decode cX10_next 194 = .ok (.istore_n 3, 1) := by decide +kernel
theorem dX10_next_195 : decode cX10_next 195 = .ok (.iload 8, 2) := by decide +kernel
theorem dX10_next_197 : decode cX10_next 197 = .ok (.istore 4, 2) := by decide +kernel
theorem dX10_next_199 : decode cX10_next 199 = .ok (.aload_n 0, 1) := by decide +kernel
theorem dX10_next_200 : decode cX10_next 200 = .ok (.getfield 57, 3) := by decide +kernel
theorem dX10_next_203 : decode cX10_next 203 = .ok (.getfield 245, 3) := by decide +kernel
theorem dX10_next_206 : decode cX10_next 206 = .ok (.istore 5, 2) := by decide +kernel
theorem dX10_next_208 : decode cX10_next 208 = .ok (.iinc 7 1, 3) := by decide +kernel
theorem dX10_next_211 : decode cX10_next 211 = .ok (.goto (-175), 3) := by decide +kernel
theorem dX10_next_214 : decode cX10_next 214 = .ok (.iload_n 3, 1) := by decide +kernel
theorem dX10_next_215 : decode cX10_next 215 = .ok (.ireturn, 1) := by decide +kernel
theorem dX10_pair_0 : decode cX10_pair 0 = .ok (.aload_n 0, 1) := by decide +kernel
theorem dX10_pair_1 : decode cX10_pair 1 = .ok (.iload_n 1, 1) := by decide +kernel
theorem dX10_pair_2 : decode cX10_pair 2 = .ok (.iload_n 2, 1) := by decide +kernel
theorem dX10_pair_3 : decode cX10_pair 3 = .ok (.iload_n 3, 1) := by decide +kernel
theorem dX10_pair_4 : decode cX10_pair 4 = .ok (.invokevirtual 238, 3) := by decide +kernel
theorem dX10_pair_7 : decode cX10_pair 7 = .ok (.ifCond .eq 18, 3) := by decide +kernel
theorem dX10_pair_10 : decode cX10_pair 10 = .ok (.iload 4, 2) := by decide +kernel
theorem dX10_pair_12 : decode cX10_pair 12 = .ok (.ifCond .lt 13, 3) := by decide +kernel
theorem dX10_pair_15 : decode cX10_pair 15 = .ok (.iload 5, 2) := by decide +kernel
theorem dX10_pair_17 : decode cX10_pair 17 = .ok (.iconst 0, 1) := by decide +kernel
theorem dX10_pair_18 : decode cX10_pair 18 = .ok (.iconst 1, 1) := by decide +kernel
theorem dX10_pair_19 : decode cX10_pair 19 = .ok (.invokestatic 133, 3) := by decide +kernel
theorem dX10_pair_22 : decode cX10_pair 22 = .ok (.ifCond .ne 6, 3) := by decide +kernel
theorem dX10_pair_25 : decode cX10_pair 25 = .ok (.bipush (-2), 2) := by decide +kernel
theorem dX10_pair_27 : decode cX10_pair 27 = .ok (.ireturn, 1) := by decide +kernel
theorem dX10_pair_28 : decode cX10_pair 28 = .ok (.aload_n 0, 1) := by decide +kernel
theorem dX10_pair_29 : decode cX10_pair 29 = .ok (.getfield 57, 3) := by decide +kernel
theorem dX10_pair_32 : decode cX10_pair 32 = .ok (.iload_n 1, 1) := by decide +kernel
theorem dX10_pair_33 : decode cX10_pair 33 = .ok (.iload_n 2, 1) := by decide +kernel
theorem dX10_pair_34 : decode cX10_pair 34 = .ok (.iload_n 3, 1) := by decide +kernel
theorem dX10_pair_35 : decode cX10_pair 35 = .ok (.invokevirtual 241, 3) := by decide +kernel
theorem dX10_pair_38 : decode cX10_pair 38 = .ok (.aload_n 0, 1) := by decide +kernel
theorem dX10_pair_39 : decode cX10_pair 39 = .ok (.getfield 57, 3) := by decide +kernel
theorem dX10_pair_42 : decode cX10_pair 42 = .ok (.iload 4, 2) := by decide +kernel
theorem dX10_pair_44 : decode cX10_pair 44 = .ok (.iload 5, 2) := by decide +kernel
theorem dX10_pair_46 : decode cX10_pair 46 = .ok (.ifCond .ne 7, 3) := by decide +kernel
theorem dX10_pair_49 : decode cX10_pair 49 = .ok (.iconst 1, 1) := by decide +kernel
theorem dX10_pair_50 : decode cX10_pair 50 = .ok (.goto 4, 3) := by decide +kernel
theorem dX10_pair_53 : decode cX10_pair 53 = .ok (.iconst 0, 1) := by decide +kernel
theorem dX10_pair_54 : decode cX10_pair 54 = .ok (.invokevirtual 254, 3) := by decide +kernel
theorem dX10_pair_57 : decode cX10_pair 57 = .ok (.ireturn, 1) := by decide +kernel
theorem dX8_addRight_0 : decode cX8_addRight 0 = .ok (.aload_n 0, 1) := by decide +kernel
theorem dX8_addRight_1 : decode cX8_addRight 1 = .ok (.getfield 28, 3) := by decide +kernel
theorem dX8_addRight_4 : decode cX8_addRight 4 = .ok (.bipush 20, 2) := by decide +kernel
theorem dX8_addRight_6 : decode cX8_addRight 6 = .ok (.if_icmp .ge 50, 3) := by decide +kernel
theorem dX8_addRight_9 : decode cX8_addRight 9 = .ok (.aload_n 0, 1) := by decide +kernel
theorem dX8_addRight_10 : decode cX8_addRight 10 = .ok (.aload_n 0, 1) := by decide +kernel
theorem dX8_addRight_11 : decode cX8_addRight 11 = .ok (.getfield 18, 3) := by decide +kernel
theorem dX8_addRight_14 : decode cX8_addRight 14 = .ok (.aload_n 0, 1) := by decide +kernel
theorem dX8_addRight_15 : decode cX8_addRight 15 = .ok (.getfield 28, 3) := by decide +kernel
theorem dX8_addRight_18 : decode cX8_addRight 18 = .ok (.bipush 6, 2) := by decide +kernel
theorem dX8_addRight_20 : decode cX8_addRight 20 = .ok (.imul, 1) := by decide +kernel
theorem dX8_addRight_21 : decode cX8_addRight 21 = .ok (.iload_n 1, 1) := by decide +kernel
theorem dX8_addRight_22 : decode cX8_addRight 22 = .ok (.iload_n 2, 1) := by decide +kernel
theorem dX8_addRight_23 : decode cX8_addRight 23 = .ok (.iconst 0, 1) := by decide +kernel
theorem dX8_addRight_24 : decode cX8_addRight 24 = .ok (.invokevirtual 40, 3) := by decide +kernel
theorem dX8_addRight_27 : decode cX8_addRight 27 = .ok (.aload_n 0, 1) := by decide +kernel
theorem dX8_addRight_28 : decode cX8_addRight 28 = .ok (.getfield 18, 3) := by decide +kernel
theorem dX8_addRight_31 : decode cX8_addRight 31 = .ok (.aload_n 0, 1) := by decide +kernel
theorem dX8_addRight_32 : decode cX8_addRight 32 = .ok (.getfield 28, 3) := by decide +kernel
theorem dX8_addRight_35 : decode cX8_addRight 35 = .ok (.bipush 6, 2) := by decide +kernel
theorem dX8_addRight_37 : decode cX8_addRight 37 = .ok (.imul, 1) := by decide +kernel
theorem dX8_addRight_38 : decode cX8_addRight 38 = .ok (.iload_n 3, 1) := by decide +kernel
theorem dX8_addRight_39 : decode cX8_addRight 39 = .ok (.iload 4, 2) := by decide +kernel
theorem dX8_addRight_41 : decode cX8_addRight 41 = .ok (.iload 5, 2) := by decide +kernel
theorem dX8_addRight_43 : decode cX8_addRight 43 = .ok (.invokestatic 44, 3) := by decide +kernel
theorem dX8_addRight_46 : decode cX8_addRight 46 = .ok (.aload_n 0, 1) := by decide +kernel
theorem dX8_addRight_47 : decode cX8_addRight 47 = .ok (.dup, 1) := by decide +kernel
theorem dX8_addRight_48 : decode cX8_addRight 48 = .ok (.getfield 28, 3) := by decide +kernel
theorem dX8_addRight_51 : decode cX8_addRight 51 = .ok (.iconst 1, 1) := by decide +kernel
theorem dX8_addRight_52 : decode cX8_addRight 52 = .ok (.iadd, 1) := by decide +kernel
theorem dX8_addRight_53 : decode cX8_addRight 53 = .ok (.putfield 28, 3) := by decide +kernel
theorem dX8_addRight_56 : decode cX8_addRight 56 = .ok (.return_, 1) := by decide +kernel
theorem dX8_rightsOf_0 : decode cX8_rightsOf 0 = .ok (.iconst 0, 1) := by decide +kernel
theorem dX8_rightsOf_1 : decode cX8_rightsOf 1 = .ok (.istore_n 2, 1) := by decide +kernel
theorem dX8_rightsOf_2 : decode cX8_rightsOf 2 = .ok (.iconst 0, 1) := by decide +kernel
theorem dX8_rightsOf_3 : decode cX8_rightsOf 3 = .ok (.istore_n 3, 1) := by decide +kernel
theorem dX8_rightsOf_4 : decode cX8_rightsOf 4 = .ok (.iload_n 3, 1) := by decide +kernel
theorem dX8_rightsOf_5 : decode cX8_rightsOf 5 = .ok (.aload_n 0, 1) := by decide +kernel
theorem dX8_rightsOf_6 : decode cX8_rightsOf 6 = .ok (.getfield 28, 3) := by decide +kernel
theorem dX8_rightsOf_9 : decode cX8_rightsOf 9 = .ok (.if_icmp .ge 32, 3) := by decide +kernel
theorem dX8_rightsOf_12 : decode cX8_rightsOf 12 = .ok (.iload_n 2, 1) := by decide +kernel
theorem dX8_rightsOf_13 : decode cX8_rightsOf 13 = .ok (.aload_n 0, 1) := by decide +kernel
theorem dX8_rightsOf_14 : decode cX8_rightsOf 14 = .ok (.getfield 18, 3) := by decide +kernel
theorem dX8_rightsOf_17 : decode cX8_rightsOf 17 = .ok (.iload_n 3, 1) := by decide +kernel
theorem dX8_rightsOf_18 : decode cX8_rightsOf 18 = .ok (.bipush 6, 2) := by decide +kernel
theorem dX8_rightsOf_20 : decode cX8_rightsOf 20 = .ok (.imul, 1) := by decide +kernel
theorem dX8_rightsOf_21 : decode cX8_rightsOf 21 = .ok (.iconst 1, 1) := by decide +kernel
theorem dX8_rightsOf_22 : decode cX8_rightsOf 22 = .ok (.iadd, 1) := by decide +kernel
theorem dX8_rightsOf_23 : decode cX8_rightsOf 23 = .ok (.iaload, 1) := by decide +kernel
theorem dX8_rightsOf_24 : decode cX8_rightsOf 24 = .ok (.iload_n 1, 1) := by decide +kernel
theorem dX8_rightsOf_25 : decode cX8_rightsOf 25 = .ok (.if_icmp .ne 7, 3) := by decide +kernel
theorem dX8_rightsOf_28 : decode cX8_rightsOf 28 = .ok (.iconst 1, 1) := by decide +kernel
theorem dX8_rightsOf_29 : decode cX8_rightsOf 29 = .ok (.goto 4, 3) := by decide +kernel
theorem dX8_rightsOf_32 : decode cX8_rightsOf 32 = .ok (.iconst 0, 1) := by decide +kernel
theorem dX8_rightsOf_33 : decode cX8_rightsOf 33 = .ok (.iadd, 1) := by decide +kernel
theorem dX8_rightsOf_34 : decode cX8_rightsOf 34 = .ok (.istore_n 2, 1) := by decide +kernel
theorem dX8_rightsOf_35 : decode cX8_rightsOf 35 = .ok (.iinc 3 1, 3) := by decide +kernel
theorem dX8_rightsOf_38 : decode cX8_rightsOf 38 = .ok (.goto (-34), 3) := by decide +kernel
theorem dX8_rightsOf_41 : decode cX8_rightsOf 41 = .ok (.iload_n 2, 1) := by decide +kernel
theorem dX8_rightsOf_42 : decode cX8_rightsOf 42 = .ok (.ireturn, 1) := by decide +kernel
theorem dX10_right_0 : decode cX10_right 0 = .ok (.aload_n 0, 1) := by decide +kernel
theorem dX10_right_1 : decode cX10_right 1 = .ok (.iload_n 1, 1) := by decide +kernel
theorem dX10_right_2 : decode cX10_right 2 = .ok (.invokevirtual 193, 3) := by decide +kernel
theorem dX10_right_5 : decode cX10_right 5 = .ok (.ifCond .eq 31, 3) := by decide +kernel
theorem dX10_right_8 : decode cX10_right 8 = .ok (.iload_n 2, 1) := by decide +kernel
theorem dX10_right_9 : decode cX10_right 9 = .ok (.iconst 0, 1) := by decide +kernel
theorem dX10_right_10 : decode cX10_right 10 = .ok (.aload_n 0, 1) := by decide +kernel
theorem dX10_right_11 : decode cX10_right 11 = .ok (.getfield 44, 3) := by decide +kernel
theorem dX10_right_14 : decode cX10_right 14 = .ok (.getfield 209, 3) := by decide +kernel
theorem dX10_right_17 : decode cX10_right 17 = .ok (.iconst 1, 1) := by decide +kernel
theorem dX10_right_18 : decode cX10_right 18 = .ok (.isub, 1) := by decide +kernel
theorem dX10_right_19 : decode cX10_right 19 = .ok (.invokestatic 133, 3) := by decide +kernel
theorem dX10_right_22 : decode cX10_right 22 = .ok (.ifCond .eq 14, 3) := by decide +kernel
theorem dX10_right_25 : decode cX10_right 25 = .ok (.iload_n 3, 1) := by decide +kernel
theorem dX10_right_26 : decode cX10_right 26 = .ok (.iload 4, 2) := by decide +kernel
theorem dX10_right_28 : decode cX10_right 28 = .ok (.iload 5, 2) := by decide +kernel
theorem dX10_right_30 : decode cX10_right 30 = .ok (.invokestatic 199, 3) := by decide +kernel
theorem dX10_right_33 : decode cX10_right 33 = .ok (.ifCond .ne 6, 3) := by decide +kernel
theorem dX10_right_36 : decode cX10_right 36 = .ok (.bipush (-2), 2) := by decide +kernel
theorem dX10_right_38 : decode cX10_right 38 = .ok (.ireturn, 1) := by decide +kernel
theorem dX10_right_39 : decode cX10_right 39 = .ok (.aload_n 0, 1) := by decide +kernel
theorem dX10_right_40 : decode cX10_right 40 = .ok (.getfield 44, 3) := by decide +kernel
theorem dX10_right_43 : decode cX10_right 43 = .ok (.getfield 215, 3) := by decide +kernel
theorem dX10_right_46 : decode cX10_right 46 = .ok (.bipush 20, 2) := by decide +kernel
theorem dX10_right_48 : decode cX10_right 48 = .ok (.if_icmp .lt 6, 3) := by decide +kernel
theorem dX10_right_51 : decode cX10_right 51 = .ok (.bipush (-3), 2) := by decide +kernel
theorem dX10_right_53 : decode cX10_right 53 = .ok (.ireturn, 1) := by decide +kernel
theorem dX10_right_54 : decode cX10_right 54 = .ok (.aload_n 0, 1) := by decide +kernel
theorem dX10_right_55 : decode cX10_right 55 = .ok (.getfield 44, 3) := by decide +kernel
theorem dX10_right_58 : decode cX10_right 58 = .ok (.iload_n 1, 1) := by decide +kernel
theorem dX10_right_59 : decode cX10_right 59 = .ok (.iload_n 2, 1) := by decide +kernel
theorem dX10_right_60 : decode cX10_right 60 = .ok (.iload_n 3, 1) := by decide +kernel
theorem dX10_right_61 : decode cX10_right 61 = .ok (.iload 4, 2) := by decide +kernel
theorem dX10_right_63 : decode cX10_right 63 = .ok (.iload 5, 2) := by decide +kernel
theorem dX10_right_65 : decode cX10_right 65 = .ok (.invokevirtual 218, 3) := by decide +kernel
theorem dX10_right_68 : decode cX10_right 68 = .ok (.aload_n 0, 1) := by decide +kernel
theorem dX10_right_69 : decode cX10_right 69 = .ok (.getfield 44, 3) := by decide +kernel
theorem dX10_right_72 : decode cX10_right 72 = .ok (.iload_n 2, 1) := by decide +kernel
theorem dX10_right_73 : decode cX10_right 73 = .ok (.invokevirtual 222, 3) := by decide +kernel
theorem dX10_right_76 : decode cX10_right 76 = .ok (.ireturn, 1) := by decide +kernel
theorem dX10_shows_0 : decode cX10_shows 0 = .ok (.aload_n 0, 1) := by decide +kernel
theorem dX10_shows_1 : decode cX10_shows 1 = .ok (.iload_n 1, 1) := by decide +kernel
theorem dX10_shows_2 : decode cX10_shows 2 = .ok (.invokevirtual 196, 3) := by decide +kernel
theorem dX10_shows_5 : decode cX10_shows 5 = .ok (.ifCond .eq 25, 3) := by decide +kernel
theorem dX10_shows_8 : decode cX10_shows 8 = .ok (.iload_n 2, 1) := by decide +kernel
theorem dX10_shows_9 : decode cX10_shows 9 = .ok (.invokestatic 170, 3) := by decide +kernel
theorem dX10_shows_12 : decode cX10_shows 12 = .ok (.ifCond .eq 18, 3) := by decide +kernel
theorem dX10_shows_15 : decode cX10_shows 15 = .ok (.iload_n 3, 1) := by decide +kernel
theorem dX10_shows_16 : decode cX10_shows 16 = .ok (.invokestatic 225, 3) := by decide +kernel
theorem dX10_shows_19 : decode cX10_shows 19 = .ok (.ifCond .eq 11, 3) := by decide +kernel
theorem dX10_shows_22 : decode cX10_shows 22 = .ok (.iload 4, 2) := by decide +kernel
theorem dX10_shows_24 : decode cX10_shows 24 = .ok (.invokestatic 186, 3) := by decide +kernel
theorem dX10_shows_27 : decode cX10_shows 27 = .ok (.ifCond .ne 6, 3) := by decide +kernel
theorem dX10_shows_30 : decode cX10_shows 30 = .ok (.bipush (-2), 2) := by decide +kernel
theorem dX10_shows_32 : decode cX10_shows 32 = .ok (.ireturn, 1) := by decide +kernel
theorem dX10_shows_33 : decode cX10_shows 33 = .ok (.aload_n 0, 1) := by decide +kernel
theorem dX10_shows_34 : decode cX10_shows 34 = .ok (.getfield 44, 3) := by decide +kernel
theorem dX10_shows_37 : decode cX10_shows 37 = .ok (.aload_n 0, 1) := by decide +kernel
theorem dX10_shows_38 : decode cX10_shows 38 = .ok (.getfield 44, 3) := by decide +kernel
theorem dX10_shows_41 : decode cX10_shows 41 = .ok (.iload_n 1, 1) := by decide +kernel
theorem dX10_shows_42 : decode cX10_shows 42 = .ok (.iload_n 2, 1) := by decide +kernel
theorem dX10_shows_43 : decode cX10_shows 43 = .ok (.iload_n 3, 1) := by decide +kernel
theorem dX10_shows_44 : decode cX10_shows 44 = .ok (.invokevirtual 228, 3) := by decide +kernel
theorem dX10_shows_47 : decode cX10_shows 47 = .ok (.iload 4, 2) := by decide +kernel
theorem dX10_shows_49 : decode cX10_shows 49 = .ok (.invokevirtual 231, 3) := by decide +kernel
theorem dX10_shows_52 : decode cX10_shows 52 = .ok (.ireturn, 1) := by decide +kernel
theorem dX10_stories_0 : decode cX10_stories 0 = .ok (.iload_n 1, 1) := by decide +kernel
theorem dX10_stories_1 : decode cX10_stories 1 = .ok (.invokestatic 225, 3) := by decide +kernel
theorem dX10_stories_4 : decode cX10_stories 4 = .ok (.ifCond .ne 6, 3) := by decide +kernel
theorem dX10_stories_7 : decode cX10_stories 7 = .ok (.bipush (-2), 2) := by decide +kernel
theorem dX10_stories_9 : decode cX10_stories 9 = .ok (.ireturn, 1) := by decide +kernel
theorem dX10_stories_10 : decode cX10_stories 10 = .ok (.iconst 0, 1) := by decide +kernel
theorem dX10_stories_11 : decode cX10_stories 11 = .ok (.istore_n 2, 1) := by decide +kernel
theorem dX10_stories_12 : decode cX10_stories 12 = .ok (.iconst 0, 1) := by decide +kernel
theorem dX10_stories_13 : decode cX10_stories 13 = .ok (.istore_n 3, 1) := by decide +kernel
theorem dX10_stories_14 : decode cX10_stories 14 = .ok (.iload_n 3, 1) := by decide +kernel
theorem dX10_stories_15 : decode cX10_stories 15 = .ok (.aload_n 0, 1) := by decide +kernel
theorem dX10_stories_16 : decode cX10_stories 16 = .ok (.getfield 24, 3) := by decide +kernel
theorem dX10_stories_19 : decode cX10_stories 19 = .ok (.getfield 110, 3) := by decide +kernel
theorem dX10_stories_22 : decode cX10_stories 22 = .ok (.getfield 146, 3) := by decide +kernel
theorem dX10_stories_25 : decode cX10_stories 25 = .ok (.if_icmp .ge 24, 3) := by decide +kernel
theorem dX10_stories_28 : decode cX10_stories 28 = .ok (.aload_n 0, 1) := by decide +kernel
theorem dX10_stories_29 : decode cX10_stories 29 = .ok (.iload_n 3, 1) := by decide +kernel
theorem dX10_stories_30 : decode cX10_stories 30 = .ok (.iload_n 1, 1) := by decide +kernel
theorem dX10_stories_31 : decode cX10_stories 31 = .ok (.invokevirtual 285, 3) := by decide +kernel
theorem dX10_stories_34 : decode cX10_stories 34 = .ok (.ifCond .eq 9, 3) := by decide +kernel
theorem dX10_stories_37 : decode cX10_stories 37 = .ok (.iload_n 2, 1) := by decide +kernel
theorem dX10_stories_38 : decode cX10_stories 38 = .ok (.iconst 1, 1) := by decide +kernel
theorem dX10_stories_39 : decode cX10_stories 39 = .ok (.iload_n 3, 1) := by decide +kernel
theorem dX10_stories_40 : decode cX10_stories 40 = .ok (.ishl, 1) := by decide +kernel
theorem dX10_stories_41 : decode cX10_stories 41 = .ok (.ior, 1) := by decide +kernel
theorem dX10_stories_42 : decode cX10_stories 42 = .ok (.istore_n 2, 1) := by decide +kernel
theorem dX10_stories_43 : decode cX10_stories 43 = .ok (.iinc 3 1, 3) := by decide +kernel
theorem dX10_stories_46 : decode cX10_stories 46 = .ok (.goto (-32), 3) := by decide +kernel
theorem dX10_stories_49 : decode cX10_stories 49 = .ok (.iload_n 2, 1) := by decide +kernel
theorem dX10_stories_50 : decode cX10_stories 50 = .ok (.ireturn, 1) := by decide +kernel
theorem dX10_strength_0 : decode cX10_strength 0 = .ok (.iload_n 1, 1) := by decide +kernel
theorem dX10_strength_1 : decode cX10_strength 1 = .ok (.iconst 0, 1) := by decide +kernel
theorem dX10_strength_2 : decode cX10_strength 2 = .ok (.aload_n 0, 1) := by decide +kernel
theorem dX10_strength_3 : decode cX10_strength 3 = .ok (.getfield 24, 3) := by decide +kernel
theorem dX10_strength_6 : decode cX10_strength 6 = .ok (.getfield 110, 3) := by decide +kernel
theorem dX10_strength_9 : decode cX10_strength 9 = .ok (.getfield 155, 3) := by decide +kernel
theorem dX10_strength_12 : decode cX10_strength 12 = .ok (.iconst 1, 1) := by decide +kernel
theorem dX10_strength_13 : decode cX10_strength 13 = .ok (.isub, 1) := by decide +kernel
theorem dX10_strength_14 : decode cX10_strength 14 = .ok (.invokestatic 133, 3) := by decide +kernel
theorem dX10_strength_17 : decode cX10_strength 17 = .ok (.ifCond .eq 13, 3) := by decide +kernel
theorem dX10_strength_20 : decode cX10_strength 20 = .ok (.iload_n 2, 1) := by decide +kernel
theorem dX10_strength_21 : decode cX10_strength 21 = .ok (.iconst 0, 1) := by decide +kernel
theorem dX10_strength_22 : decode cX10_strength 22 = .ok (.ldc 158, 2) := by decide +kernel
theorem dX10_strength_24 : decode cX10_strength 24 = .ok (.invokestatic 133, 3) := by decide +kernel
theorem dX10_strength_27 : decode cX10_strength 27 = .ok (.ifCond .ne 6, 3) := by decide +kernel
theorem dX10_strength_30 : decode cX10_strength 30 = .ok (.bipush (-2), 2) := by decide +kernel
theorem dX10_strength_32 : decode cX10_strength 32 = .ok (.ireturn, 1) := by decide +kernel
theorem dX10_strength_33 : decode cX10_strength 33 = .ok (.aload_n 0, 1) := by decide +kernel
theorem dX10_strength_34 : decode cX10_strength 34 = .ok (.getfield 24, 3) := by decide +kernel
theorem dX10_strength_37 : decode cX10_strength 37 = .ok (.getfield 110, 3) := by decide +kernel
theorem dX10_strength_40 : decode cX10_strength 40 = .ok (.iload_n 1, 1) := by decide +kernel
theorem dX10_strength_41 : decode cX10_strength 41 = .ok (.iload_n 2, 1) := by decide +kernel
theorem dX10_strength_42 : decode cX10_strength 42 = .ok (.invokevirtual 159, 3) := by decide +kernel
theorem dX10_strength_45 : decode cX10_strength 45 = .ok (.ireturn, 1) := by decide +kernel
theorem dX10_take_0 : decode cX10_take 0 = .ok (.iload_n 1, 1) := by decide +kernel
theorem dX10_take_1 : decode cX10_take 1 = .ok (.iconst 0, 1) := by decide +kernel
theorem dX10_take_2 : decode cX10_take 2 = .ok (.aload_n 0, 1) := by decide +kernel
theorem dX10_take_3 : decode cX10_take 3 = .ok (.getfield 48, 3) := by decide +kernel
theorem dX10_take_6 : decode cX10_take 6 = .ok (.arraylength, 1) := by decide +kernel
theorem dX10_take_7 : decode cX10_take 7 = .ok (.iconst 1, 1) := by decide +kernel
theorem dX10_take_8 : decode cX10_take 8 = .ok (.isub, 1) := by decide +kernel
theorem dX10_take_9 : decode cX10_take 9 = .ok (.invokestatic 133, 3) := by decide +kernel
theorem dX10_take_12 : decode cX10_take 12 = .ok (.ifCond .ne 6, 3) := by decide +kernel
theorem dX10_take_15 : decode cX10_take 15 = .ok (.bipush (-2), 2) := by decide +kernel
theorem dX10_take_17 : decode cX10_take 17 = .ok (.ireturn, 1) := by decide +kernel
theorem dX10_take_18 : decode cX10_take 18 = .ok (.aload_n 0, 1) := by decide +kernel
theorem dX10_take_19 : decode cX10_take 19 = .ok (.getfield 48, 3) := by decide +kernel
theorem dX10_take_22 : decode cX10_take 22 = .ok (.iload_n 1, 1) := by decide +kernel
theorem dX10_take_23 : decode cX10_take 23 = .ok (.aaload, 1) := by decide +kernel
theorem dX10_take_24 : decode cX10_take 24 = .ok (.getfield 119, 3) := by decide +kernel
theorem dX10_take_27 : decode cX10_take 27 = .ok (.ifCond .ne 6, 3) := by decide +kernel
theorem dX10_take_30 : decode cX10_take 30 = .ok (.bipush (-4), 2) := by decide +kernel
theorem dX10_take_32 : decode cX10_take 32 = .ok (.ireturn, 1) := by decide +kernel
theorem dX10_take_33 : decode cX10_take 33 = .ok (.aload_n 0, 1) := by decide +kernel
theorem dX10_take_34 : decode cX10_take 34 = .ok (.getfield 44, 3) := by decide +kernel
theorem dX10_take_37 : decode cX10_take 37 = .ok (.aload_n 0, 1) := by decide +kernel
theorem dX10_take_38 : decode cX10_take 38 = .ok (.getfield 48, 3) := by decide +kernel
theorem dX10_take_41 : decode cX10_take 41 = .ok (.iload_n 1, 1) := by decide +kernel
theorem dX10_take_42 : decode cX10_take 42 = .ok (.aaload, 1) := by decide +kernel
theorem dX10_take_43 : decode cX10_take 43 = .ok (.invokevirtual 234, 3) := by decide +kernel
theorem dX10_take_46 : decode cX10_take 46 = .ok (.aload_n 0, 1) := by decide +kernel
theorem dX10_take_47 : decode cX10_take 47 = .ok (.getfield 44, 3) := by decide +kernel
theorem dX10_take_50 : decode cX10_take 50 = .ok (.getfield 202, 3) := by decide +kernel
theorem dX10_take_53 : decode cX10_take 53 = .ok (.ireturn, 1) := by decide +kernel
theorem dX10_tellSide_0 : decode cX10_tellSide 0 = .ok (.aload_n 0, 1) := by decide +kernel
theorem dX10_tellSide_1 : decode cX10_tellSide 1 = .ok (.getfield 44, 3) := by decide +kernel
theorem dX10_tellSide_4 : decode cX10_tellSide 4 = .ok (.getfield 202, 3) := by decide +kernel
theorem dX10_tellSide_7 : decode cX10_tellSide 7 = .ok (.bipush 90, 2) := by decide +kernel
theorem dX10_tellSide_9 : decode cX10_tellSide 9 = .ok (.if_icmp .ge 12, 3) := by decide +kernel
theorem dX10_tellSide_12 : decode cX10_tellSide 12 = .ok (.aload_n 0, 1) := by decide +kernel
theorem dX10_tellSide_13 : decode cX10_tellSide 13 = .ok (.iload 4, 2) := by decide +kernel
theorem dX10_tellSide_15 : decode cX10_tellSide 15 = .ok (.invokevirtual 183, 3) := by decide +kernel
theorem dX10_tellSide_18 : decode cX10_tellSide 18 = .ok (.ifCond .ne 4, 3) := by decide +kernel
theorem dX10_tellSide_21 : decode cX10_tellSide 21 = .ok (.return_, 1) := by decide +kernel
theorem dX10_tellSide_22 : decode cX10_tellSide 22 = .ok (.aload_n 0, 1) := by decide +kernel
theorem dX10_tellSide_23 : decode cX10_tellSide 23 = .ok (.getfield 24, 3) := by decide +kernel
theorem dX10_tellSide_26 : decode cX10_tellSide 26 = .ok (.getfield 110, 3) := by decide +kernel
theorem dX10_tellSide_29 : decode cX10_tellSide 29 = .ok (.iload 5, 2) := by decide +kernel
theorem dX10_tellSide_31 : decode cX10_tellSide 31 = .ok (.aload_n 0, 1) := by decide +kernel
theorem dX10_tellSide_32 : decode cX10_tellSide 32 = .ok (.getfield 24, 3) := by decide +kernel
theorem dX10_tellSide_35 : decode cX10_tellSide 35 = .ok (.getfield 110, 3) := by decide +kernel
theorem dX10_tellSide_38 : decode cX10_tellSide 38 = .ok (.iload_n 2, 1) := by decide +kernel
theorem dX10_tellSide_39 : decode cX10_tellSide 39 = .ok (.invokevirtual 309, 3) := by decide +kernel
theorem dX10_tellSide_42 : decode cX10_tellSide 42 = .ok (.iload 6, 2) := by decide +kernel
theorem dX10_tellSide_44 : decode cX10_tellSide 44 = .ok (.iload_n 3, 1) := by decide +kernel
theorem dX10_tellSide_45 : decode cX10_tellSide 45 = .ok (.invokevirtual 173, 3) := by decide +kernel
theorem dX10_tellSide_48 : decode cX10_tellSide 48 = .ok (.istore 7, 2) := by decide +kernel
theorem dX10_tellSide_50 : decode cX10_tellSide 50 = .ok (.aload_n 0, 1) := by decide +kernel
theorem dX10_tellSide_51 : decode cX10_tellSide 51 = .ok (.getfield 44, 3) := by decide +kernel
theorem dX10_tellSide_54 : decode cX10_tellSide 54 = .ok (.iload_n 1, 1) := by decide +kernel
theorem dX10_tellSide_55 : decode cX10_tellSide 55 = .ok (.iload_n 2, 1) := by decide +kernel
theorem dX10_tellSide_56 : decode cX10_tellSide 56 = .ok (.iload_n 3, 1) := by decide +kernel
theorem dX10_tellSide_57 : decode cX10_tellSide 57 = .ok (.aload_n 0, 1) := by decide +kernel
theorem dX10_tellSide_58 : decode cX10_tellSide 58 = .ok (.getfield 24, 3) := by decide +kernel
theorem dX10_tellSide_61 : decode cX10_tellSide 61 = .ok (.iload 4, 2) := by decide +kernel
theorem dX10_tellSide_63 : decode cX10_tellSide 63 = .ok (.iload 7, 2) := by decide +kernel
theorem dX10_tellSide_65 : decode cX10_tellSide 65 = .ok (.iconst 0, 1) := by decide +kernel
theorem dX10_tellSide_66 : decode cX10_tellSide 66 = .ok (.invokevirtual 189, 3) := by decide +kernel
theorem dX10_tellSide_69 : decode cX10_tellSide 69 = .ok (.aload_n 0, 1) := by decide +kernel
theorem dX10_tellSide_70 : decode cX10_tellSide 70 = .ok (.getfield 24, 3) := by decide +kernel
theorem dX10_tellSide_73 : decode cX10_tellSide 73 = .ok (.iload 4, 2) := by decide +kernel
theorem dX10_tellSide_75 : decode cX10_tellSide 75 = .ok (.iload 7, 2) := by decide +kernel
theorem dX10_tellSide_77 : decode cX10_tellSide 77 = .ok (.iconst 1, 1) := by decide +kernel
theorem dX10_tellSide_78 : decode cX10_tellSide 78 = .ok (.invokevirtual 189, 3) := by decide +kernel
theorem dX10_tellSide_81 : decode cX10_tellSide 81 = .ok (.aload_n 0, 1) := by decide +kernel
theorem dX10_tellSide_82 : decode cX10_tellSide 82 = .ok (.getfield 24, 3) := by decide +kernel
theorem dX10_tellSide_85 : decode cX10_tellSide 85 = .ok (.iload 4, 2) := by decide +kernel
theorem dX10_tellSide_87 : decode cX10_tellSide 87 = .ok (.iload 7, 2) := by decide +kernel
theorem dX10_tellSide_89 : decode cX10_tellSide 89 = .ok (.iconst 2, 1) := by decide +kernel
theorem dX10_tellSide_90 : decode cX10_tellSide 90 = .ok (.invokevirtual 189, 3) := by decide +kernel
theorem dX10_tellSide_93 : decode cX10_tellSide 93 = .ok (.invokevirtual 205, 3) := by decide +kernel
theorem dX10_tellSide_96 : decode cX10_tellSide 96 = .ok (.return_, 1) := by decide +kernel
theorem dX10_thread_0 : decode cX10_thread 0 = .ok (.aload_n 0, 1) := by decide +kernel
theorem dX10_thread_1 : decode cX10_thread 1 = .ok (.getfield 24, 3) := by decide +kernel
theorem dX10_thread_4 : decode cX10_thread 4 = .ok (.getfield 110, 3) := by decide +kernel
theorem dX10_thread_7 : decode cX10_thread 7 = .ok (.getfield 155, 3) := by decide +kernel
theorem dX10_thread_10 : decode cX10_thread 10 = .ok (.iconst 1, 1) := by decide +kernel
theorem dX10_thread_11 : decode cX10_thread 11 = .ok (.isub, 1) := by decide +kernel
theorem dX10_thread_12 : decode cX10_thread 12 = .ok (.istore 5, 2) := by decide +kernel
theorem dX10_thread_14 : decode cX10_thread 14 = .ok (.iload_n 1, 1) := by decide +kernel
theorem dX10_thread_15 : decode cX10_thread 15 = .ok (.iconst 0, 1) := by decide +kernel
theorem dX10_thread_16 : decode cX10_thread 16 = .ok (.iload 5, 2) := by decide +kernel
theorem dX10_thread_18 : decode cX10_thread 18 = .ok (.invokestatic 133, 3) := by decide +kernel
theorem dX10_thread_21 : decode cX10_thread 21 = .ok (.ifCond .eq 13, 3) := by decide +kernel
theorem dX10_thread_24 : decode cX10_thread 24 = .ok (.iload_n 2, 1) := by decide +kernel
theorem dX10_thread_25 : decode cX10_thread 25 = .ok (.iconst 1, 1) := by decide +kernel
theorem dX10_thread_26 : decode cX10_thread 26 = .ok (.bipush 9, 2) := by decide +kernel
theorem dX10_thread_28 : decode cX10_thread 28 = .ok (.invokestatic 133, 3) := by decide +kernel
theorem dX10_thread_31 : decode cX10_thread 31 = .ok (.ifCond .ne 6, 3) := by decide +kernel
theorem dX10_thread_34 : decode cX10_thread 34 = .ok (.bipush (-2), 2) := by decide +kernel
theorem dX10_thread_36 : decode cX10_thread 36 = .ok (.ireturn, 1) := by decide +kernel
theorem dX10_thread_37 : decode cX10_thread 37 = .ok (.iload_n 1, 1) := by decide +kernel
theorem dX10_thread_38 : decode cX10_thread 38 = .ok (.iload_n 2, 1) := by decide +kernel
theorem dX10_thread_39 : decode cX10_thread 39 = .ok (.invokestatic 177, 3) := by decide +kernel
theorem dX10_thread_42 : decode cX10_thread 42 = .ok (.istore 6, 2) := by decide +kernel
theorem dX10_thread_44 : decode cX10_thread 44 = .ok (.iload_n 3, 1) := by decide +kernel
theorem dX10_thread_45 : decode cX10_thread 45 = .ok (.iconst (-1), 1) := by decide +kernel
theorem dX10_thread_46 : decode cX10_thread 46 = .ok (.if_icmp .ne 15, 3) := by decide +kernel
theorem dX10_thread_49 : decode cX10_thread 49 = .ok (.aload_n 0, 1) := by decide +kernel
theorem dX10_thread_50 : decode cX10_thread 50 = .ok (.getfield 24, 3) := by decide +kernel
theorem dX10_thread_53 : decode cX10_thread 53 = .ok (.iload 6, 2) := by decide +kernel
theorem dX10_thread_55 : decode cX10_thread 55 = .ok (.bipush 45, 2) := by decide +kernel
theorem dX10_thread_57 : decode cX10_thread 57 = .ok (.invokevirtual 180, 3) := by decide +kernel
theorem dX10_thread_60 : decode cX10_thread 60 = .ok (.ireturn, 1) := by decide +kernel
theorem dX10_thread_61 : decode cX10_thread 61 = .ok (.iload_n 3, 1) := by decide +kernel
theorem dX10_thread_62 : decode cX10_thread 62 = .ok (.iload_n 1, 1) := by decide +kernel
theorem dX10_thread_63 : decode cX10_thread 63 = .ok (.iconst 1, 1) := by decide +kernel
theorem dX10_thread_64 : decode cX10_thread 64 = .ok (.iadd, 1) := by decide +kernel
theorem dX10_thread_65 : decode cX10_thread 65 = .ok (.iload 5, 2) := by decide +kernel
theorem dX10_thread_67 : decode cX10_thread 67 = .ok (.invokestatic 133, 3) := by decide +kernel
theorem dX10_thread_70 : decode cX10_thread 70 = .ok (.ifCond .eq 14, 3) := by decide +kernel
theorem dX10_thread_73 : decode cX10_thread 73 = .ok (.iload 4, 2) := by decide +kernel
theorem dX10_thread_75 : decode cX10_thread 75 = .ok (.iconst 1, 1) := by decide +kernel
theorem dX10_thread_76 : decode cX10_thread 76 = .ok (.bipush 9, 2) := by decide +kernel
theorem dX10_thread_78 : decode cX10_thread 78 = .ok (.invokestatic 133, 3) := by decide +kernel
theorem dX10_thread_81 : decode cX10_thread 81 = .ok (.ifCond .ne 6, 3) := by decide +kernel
theorem dX10_thread_84 : decode cX10_thread 84 = .ok (.bipush (-2), 2) := by decide +kernel
theorem dX10_thread_86 : decode cX10_thread 86 = .ok (.ireturn, 1) := by decide +kernel
theorem dX10_thread_87 : decode cX10_thread 87 = .ok (.aload_n 0, 1) := by decide +kernel
theorem dX10_thread_88 : decode cX10_thread 88 = .ok (.getfield 24, 3) := by decide +kernel
theorem dX10_thread_91 : decode cX10_thread 91 = .ok (.iload 6, 2) := by decide +kernel
theorem dX10_thread_93 : decode cX10_thread 93 = .ok (.iload_n 3, 1) := by decide +kernel
theorem dX10_thread_94 : decode cX10_thread 94 = .ok (.iload 4, 2) := by decide +kernel
theorem dX10_thread_96 : decode cX10_thread 96 = .ok (.invokestatic 177, 3) := by decide +kernel
theorem dX10_thread_99 : decode cX10_thread 99 = .ok (.invokevirtual 180, 3) := by decide +kernel
theorem dX10_thread_102 : decode cX10_thread 102 = .ok (.ireturn, 1) := by decide +kernel
theorem dX10_thrown_0 : decode cX10_thrown 0 = .ok (.aload_n 0, 1) := by decide +kernel
theorem dX10_thrown_1 : decode cX10_thrown 1 = .ok (.iload_n 1, 1) := by decide +kernel
theorem dX10_thrown_2 : decode cX10_thrown 2 = .ok (.invokevirtual 196, 3) := by decide +kernel
theorem dX10_thrown_5 : decode cX10_thrown 5 = .ok (.ifCond .eq 24, 3) := by decide +kernel
theorem dX10_thrown_8 : decode cX10_thrown 8 = .ok (.aload_n 0, 1) := by decide +kernel
theorem dX10_thrown_9 : decode cX10_thrown 9 = .ok (.iload_n 2, 1) := by decide +kernel
theorem dX10_thrown_10 : decode cX10_thrown 10 = .ok (.iload_n 3, 1) := by decide +kernel
theorem dX10_thrown_11 : decode cX10_thrown 11 = .ok (.iload 4, 2) := by decide +kernel
theorem dX10_thrown_13 : decode cX10_thrown 13 = .ok (.invokevirtual 322, 3) := by decide +kernel
theorem dX10_thrown_16 : decode cX10_thrown 16 = .ok (.ifCond .eq 13, 3) := by decide +kernel
theorem dX10_thrown_19 : decode cX10_thrown 19 = .ok (.iload 5, 2) := by decide +kernel
theorem dX10_thrown_21 : decode cX10_thrown 21 = .ok (.iconst 0, 1) := by decide +kernel
theorem dX10_thrown_22 : decode cX10_thrown 22 = .ok (.iconst 3, 1) := by decide +kernel
theorem dX10_thrown_23 : decode cX10_thrown 23 = .ok (.invokestatic 133, 3) := by decide +kernel
theorem dX10_thrown_26 : decode cX10_thrown 26 = .ok (.ifCond .ne 6, 3) := by decide +kernel
theorem dX10_thrown_29 : decode cX10_thrown 29 = .ok (.bipush (-2), 2) := by decide +kernel
theorem dX10_thrown_31 : decode cX10_thrown 31 = .ok (.ireturn, 1) := by decide +kernel
theorem dX10_thrown_32 : decode cX10_thrown 32 = .ok (.aload_n 0, 1) := by decide +kernel
theorem dX10_thrown_33 : decode cX10_thrown 33 = .ok (.getfield 44, 3) := by decide +kernel
theorem dX10_thrown_36 : decode cX10_thrown 36 = .ok (.iload_n 1, 1) := by decide +kernel
theorem dX10_thrown_37 : decode cX10_thrown 37 = .ok (.iconst 0, 1) := by decide +kernel
theorem dX10_thrown_38 : decode cX10_thrown 38 = .ok (.sipush 999, 3) := by decide +kernel
theorem dX10_thrown_41 : decode cX10_thrown 41 = .ok (.invokevirtual 228, 3) := by decide +kernel
theorem dX10_thrown_44 : decode cX10_thrown 44 = .ok (.istore 6, 2) := by decide +kernel
theorem dX10_thrown_46 : decode cX10_thrown 46 = .ok (.aload_n 0, 1) := by decide +kernel
theorem dX10_thrown_47 : decode cX10_thrown 47 = .ok (.getfield 44, 3) := by decide +kernel
theorem dX10_thrown_50 : decode cX10_thrown 50 = .ok (.iload 6, 2) := by decide +kernel
theorem dX10_thrown_52 : decode cX10_thrown 52 = .ok (.invokevirtual 273, 3) := by decide +kernel
theorem dX10_thrown_55 : decode cX10_thrown 55 = .ok (.ifCond .ne 5, 3) := by decide +kernel
theorem dX10_thrown_58 : decode cX10_thrown 58 = .ok (.iconst (-1), 1) := by decide +kernel
theorem dX10_thrown_59 : decode cX10_thrown 59 = .ok (.ireturn, 1) := by decide +kernel
theorem dX10_thrown_60 : decode cX10_thrown 60 = .ok (.aload_n 0, 1) := by decide +kernel
theorem dX10_thrown_61 : decode cX10_thrown 61 = .ok (.iload_n 1, 1) := by decide +kernel
theorem dX10_thrown_62 : decode cX10_thrown 62 = .ok (.iload 6, 2) := by decide +kernel
theorem dX10_thrown_64 : decode cX10_thrown 64 = .ok (.iload_n 2, 1) := by decide +kernel
theorem dX10_thrown_65 : decode cX10_thrown 65 = .ok (.iload_n 3, 1) := by decide +kernel
theorem dX10_thrown_66 : decode cX10_thrown 66 = .ok (.iload 4, 2) := by decide +kernel
theorem dX10_thrown_68 : decode cX10_thrown 68 = .ok (.invokevirtual 325, 3) := by decide +kernel
theorem dX10_thrown_71 : decode cX10_thrown 71 = .ok (.iload 5, 2) := by decide +kernel
theorem dX10_thrown_73 : decode cX10_thrown 73 = .ok (.iconst 3, 1) := by decide +kernel
theorem dX10_thrown_74 : decode cX10_thrown 74 = .ok (.if_icmp .ne 13, 3) := by decide +kernel
theorem dX10_thrown_77 : decode cX10_thrown 77 = .ok (.aload_n 0, 1) := by decide +kernel
theorem dX10_thrown_78 : decode cX10_thrown 78 = .ok (.getfield 74, 3) := by decide +kernel
theorem dX10_thrown_81 : decode cX10_thrown 81 = .ok (.getfield 328, 3) := by decide +kernel
theorem dX10_thrown_84 : decode cX10_thrown 84 = .ok (.goto 13, 3) := by decide +kernel
theorem dX10_thrown_87 : decode cX10_thrown 87 = .ok (.aload_n 0, 1) := by decide +kernel
theorem dX10_thrown_88 : decode cX10_thrown 88 = .ok (.getfield 74, 3) := by decide +kernel
theorem dX10_thrown_91 : decode cX10_thrown 91 = .ok (.getfield 331, 3) := by decide +kernel
theorem dX10_thrown_94 : decode cX10_thrown 94 = .ok (.iload 5, 2) := by decide +kernel
theorem dX10_thrown_96 : decode cX10_thrown 96 = .ok (.iaload, 1) := by decide +kernel
theorem dX10_thrown_97 : decode cX10_thrown 97 = .ok (.ireturn, 1) := by decide +kernel
theorem dX1_numberTold_0 : decode cX1_numberTold 0 = .ok (.iload_n 1, 1) := by decide +kernel
theorem dX1_numberTold_1 : decode cX1_numberTold 1 = .ok (.tableswitch 87 0 7 #[47, 52, 57, 62, 67, 72, 77, 82], 47) := by decide +kernel
theorem dX1_numberTold_48 : decode cX1_numberTold 48 = .ok (.aload_n 0, 1) := by decide +kernel
theorem dX1_numberTold_49 : decode cX1_numberTold 49 = .ok (.getfield 43, 3) := by decide +kernel
theorem dX1_numberTold_52 : decode cX1_numberTold 52 = .ok (.ireturn, 1) := by decide +kernel
theorem dX1_numberTold_53 : decode cX1_numberTold 53 = .ok (.aload_n 0, 1) := by decide +kernel
theorem dX1_numberTold_54 : decode cX1_numberTold 54 = .ok (.getfield 47, 3) := by decide +kernel
theorem dX1_numberTold_57 : decode cX1_numberTold 57 = .ok (.ireturn, 1) := by decide +kernel
theorem dX1_numberTold_58 : decode cX1_numberTold 58 = .ok (.aload_n 0, 1) := by decide +kernel
theorem dX1_numberTold_59 : decode cX1_numberTold 59 = .ok (.getfield 50, 3) := by decide +kernel
theorem dX1_numberTold_62 : decode cX1_numberTold 62 = .ok (.ireturn, 1) := by decide +kernel
theorem dX1_numberTold_63 : decode cX1_numberTold 63 = .ok (.aload_n 0, 1) := by decide +kernel
theorem dX1_numberTold_64 : decode cX1_numberTold 64 = .ok (.getfield 53, 3) := by decide +kernel
theorem dX1_numberTold_67 : decode cX1_numberTold 67 = .ok (.ireturn, 1) := by decide +kernel
theorem dX1_numberTold_68 : decode cX1_numberTold 68 = .ok (.aload_n 0, 1) := by decide +kernel
theorem dX1_numberTold_69 : decode cX1_numberTold 69 = .ok (.getfield 68, 3) := by decide +kernel
theorem dX1_numberTold_72 : decode cX1_numberTold 72 = .ok (.ireturn, 1) := by decide +kernel
theorem dX1_numberTold_73 : decode cX1_numberTold 73 = .ok (.aload_n 0, 1) := by decide +kernel
theorem dX1_numberTold_74 : decode cX1_numberTold 74 = .ok (.getfield 71, 3) := by decide +kernel
theorem dX1_numberTold_77 : decode cX1_numberTold 77 = .ok (.ireturn, 1) := by decide +kernel
theorem dX1_numberTold_78 : decode cX1_numberTold 78 = .ok (.aload_n 0, 1) := by decide +kernel
theorem dX1_numberTold_79 : decode cX1_numberTold 79 = .ok (.getfield 74, 3) := by decide +kernel
theorem dX1_numberTold_82 : decode cX1_numberTold 82 = .ok (.ireturn, 1) := by decide +kernel
theorem dX1_numberTold_83 : decode cX1_numberTold 83 = .ok (.aload_n 0, 1) := by decide +kernel
theorem dX1_numberTold_84 : decode cX1_numberTold 84 = .ok (.getfield 65, 3) := by decide +kernel
theorem dX1_numberTold_87 : decode cX1_numberTold 87 = .ok (.ireturn, 1) := by decide +kernel
theorem dX1_numberTold_88 : decode cX1_numberTold 88 = .ok (.iconst (-1), 1) := by decide +kernel
theorem dX1_numberTold_89 : decode cX1_numberTold 89 = .ok (.ireturn, 1) := by decide +kernel
theorem dX1_yearsOf_0 : decode cX1_yearsOf 0 = .ok (.iconst 0, 1) := by decide +kernel
theorem dX1_yearsOf_1 : decode cX1_yearsOf 1 = .ok (.istore_n 2, 1) := by decide +kernel
theorem dX1_yearsOf_2 : decode cX1_yearsOf 2 = .ok (.iconst 0, 1) := by decide +kernel
theorem dX1_yearsOf_3 : decode cX1_yearsOf 3 = .ok (.istore_n 3, 1) := by decide +kernel
theorem dX1_yearsOf_4 : decode cX1_yearsOf 4 = .ok (.iload_n 3, 1) := by decide +kernel
theorem dX1_yearsOf_5 : decode cX1_yearsOf 5 = .ok (.aload_n 0, 1) := by decide +kernel
theorem dX1_yearsOf_6 : decode cX1_yearsOf 6 = .ok (.getfield 28, 3) := by decide +kernel
theorem dX1_yearsOf_9 : decode cX1_yearsOf 9 = .ok (.iload_n 1, 1) := by decide +kernel
theorem dX1_yearsOf_10 : decode cX1_yearsOf 10 = .ok (.iaload, 1) := by decide +kernel
theorem dX1_yearsOf_11 : decode cX1_yearsOf 11 = .ok (.if_icmp .ge 22, 3) := by decide +kernel
theorem dX1_yearsOf_14 : decode cX1_yearsOf 14 = .ok (.iload_n 2, 1) := by decide +kernel
theorem dX1_yearsOf_15 : decode cX1_yearsOf 15 = .ok (.aload_n 0, 1) := by decide +kernel
theorem dX1_yearsOf_16 : decode cX1_yearsOf 16 = .ok (.getfield 31, 3) := by decide +kernel
theorem dX1_yearsOf_19 : decode cX1_yearsOf 19 = .ok (.iload_n 1, 1) := by decide +kernel
theorem dX1_yearsOf_20 : decode cX1_yearsOf 20 = .ok (.iload_n 3, 1) := by decide +kernel
theorem dX1_yearsOf_21 : decode cX1_yearsOf 21 = .ok (.invokestatic 85, 3) := by decide +kernel
theorem dX1_yearsOf_24 : decode cX1_yearsOf 24 = .ok (.iaload, 1) := by decide +kernel
theorem dX1_yearsOf_25 : decode cX1_yearsOf 25 = .ok (.iadd, 1) := by decide +kernel
theorem dX1_yearsOf_26 : decode cX1_yearsOf 26 = .ok (.istore_n 2, 1) := by decide +kernel
theorem dX1_yearsOf_27 : decode cX1_yearsOf 27 = .ok (.iinc 3 1, 3) := by decide +kernel
theorem dX1_yearsOf_30 : decode cX1_yearsOf 30 = .ok (.goto (-26), 3) := by decide +kernel
theorem dX1_yearsOf_33 : decode cX1_yearsOf 33 = .ok (.iload_n 2, 1) := by decide +kernel
theorem dX1_yearsOf_34 : decode cX1_yearsOf 34 = .ok (.ireturn, 1) := by decide +kernel
theorem dX10_told_0 : decode cX10_told 0 = .ok (.aload_n 0, 1) := by decide +kernel
theorem dX10_told_1 : decode cX10_told 1 = .ok (.getfield 24, 3) := by decide +kernel
theorem dX10_told_4 : decode cX10_told 4 = .ok (.getfield 110, 3) := by decide +kernel
theorem dX10_told_7 : decode cX10_told 7 = .ok (.astore_n 2, 1) := by decide +kernel
theorem dX10_told_8 : decode cX10_told 8 = .ok (.iload_n 1, 1) := by decide +kernel
theorem dX10_told_9 : decode cX10_told 9 = .ok (.ifCond .lt 15, 3) := by decide +kernel
theorem dX10_told_12 : decode cX10_told 12 = .ok (.iload_n 1, 1) := by decide +kernel
theorem dX10_told_13 : decode cX10_told 13 = .ok (.bipush 10, 2) := by decide +kernel
theorem dX10_told_15 : decode cX10_told 15 = .ok (.if_icmp .ge 9, 3) := by decide +kernel
theorem dX10_told_18 : decode cX10_told 18 = .ok (.aload_n 2, 1) := by decide +kernel
theorem dX10_told_19 : decode cX10_told 19 = .ok (.iload_n 1, 1) := by decide +kernel
theorem dX10_told_20 : decode cX10_told 20 = .ok (.invokevirtual 129, 3) := by decide +kernel
theorem dX10_told_23 : decode cX10_told 23 = .ok (.ireturn, 1) := by decide +kernel
theorem dX10_told_24 : decode cX10_told 24 = .ok (.iload_n 1, 1) := by decide +kernel
theorem dX10_told_25 : decode cX10_told 25 = .ok (.bipush 10, 2) := by decide +kernel
theorem dX10_told_27 : decode cX10_told 27 = .ok (.isub, 1) := by decide +kernel
theorem dX10_told_28 : decode cX10_told 28 = .ok (.iconst 0, 1) := by decide +kernel
theorem dX10_told_29 : decode cX10_told 29 = .ok (.iconst 2, 1) := by decide +kernel
theorem dX10_told_30 : decode cX10_told 30 = .ok (.invokestatic 133, 3) := by decide +kernel
theorem dX10_told_33 : decode cX10_told 33 = .ok (.ifCond .eq 13, 3) := by decide +kernel
theorem dX10_told_36 : decode cX10_told 36 = .ok (.aload_n 2, 1) := by decide +kernel
