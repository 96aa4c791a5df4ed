theorem dJ6_bitCount_0f7a4_0 : decode cJ6_bitCount_0f7a4 0 = .ok (.iload_n 0, 1) := by decide +kernel
theorem dJ6_bitCount_0f7a4_1 : decode cJ6_bitCount_0f7a4 1 = .ok (.iload_n 0, 1) := by decide +kernel
theorem dJ6_bitCount_0f7a4_2 : decode cJ6_bitCount_0f7a4 2 = .ok (.iconst 1, 1) := by decide +kernel
theorem dJ6_bitCount_0f7a4_3 : decode cJ6_bitCount_0f7a4 3 = .ok (.iushr, 1) := by decide +kernel
theorem dJ6_bitCount_0f7a4_4 : decode cJ6_bitCount_0f7a4 4 = .ok (.ldc_w 265, 3) := by decide +kernel
theorem dJ6_bitCount_0f7a4_7 : decode cJ6_bitCount_0f7a4 7 = .ok (.iand, 1) := by decide +kernel
theorem dJ6_bitCount_0f7a4_8 : decode cJ6_bitCount_0f7a4 8 = .ok (.isub, 1) := by decide +kernel
theorem dJ6_bitCount_0f7a4_9 : decode cJ6_bitCount_0f7a4 9 = .ok (.istore_n 0, 1) := by decide +kernel
theorem dJ6_bitCount_0f7a4_10 : decode cJ6_bitCount_0f7a4 10 = .ok (.iload_n 0, 1) := by decide +kernel
theorem dJ6_bitCount_0f7a4_11 : decode cJ6_bitCount_0f7a4 11 = .ok (.ldc_w 266, 3) := by decide +kernel
theorem dJ6_bitCount_0f7a4_14 : decode cJ6_bitCount_0f7a4 14 = .ok (.iand, 1) := by decide +kernel
theorem dJ6_bitCount_0f7a4_15 : decode cJ6_bitCount_0f7a4 15 = .ok (.iload_n 0, 1) := by decide +kernel
theorem dJ6_bitCount_0f7a4_16 : decode cJ6_bitCount_0f7a4 16 = .ok (.iconst 2, 1) := by decide +kernel
theorem dJ6_bitCount_0f7a4_17 : decode cJ6_bitCount_0f7a4 17 = .ok (.iushr, 1) := by decide +kernel
theorem dJ6_bitCount_0f7a4_18 : decode cJ6_bitCount_0f7a4 18 = .ok (.ldc_w 266, 3) := by decide +kernel
theorem dJ6_bitCount_0f7a4_21 : decode cJ6_bitCount_0f7a4 21 = .ok (.iand, 1) := by decide +kernel
theorem dJ6_bitCount_0f7a4_22 : decode cJ6_bitCount_0f7a4 22 = .ok (.iadd, 1) := by decide +kernel
theorem dJ6_bitCount_0f7a4_23 : decode cJ6_bitCount_0f7a4 23 = .ok (.istore_n 0, 1) := by decide +kernel
theorem dJ6_bitCount_0f7a4_24 : decode cJ6_bitCount_0f7a4 24 = .ok (.iload_n 0, 1) := by decide +kernel
theorem dJ6_bitCount_0f7a4_25 : decode cJ6_bitCount_0f7a4 25 = .ok (.iload_n 0, 1) := by decide +kernel
theorem dJ6_bitCount_0f7a4_26 : decode cJ6_bitCount_0f7a4 26 = .ok (.iconst 4, 1) := by decide +kernel
theorem dJ6_bitCount_0f7a4_27 : decode cJ6_bitCount_0f7a4 27 = .ok (.iushr, 1) := by decide +kernel
theorem dJ6_bitCount_0f7a4_28 : decode cJ6_bitCount_0f7a4 28 = .ok (.iadd, 1) := by decide +kernel
theorem dJ6_bitCount_0f7a4_29 : decode cJ6_bitCount_0f7a4 29 = .ok (.ldc_w 267, 3) := by decide +kernel
theorem dJ6_bitCount_0f7a4_32 : decode cJ6_bitCount_0f7a4 32 = .ok (.iand, 1) := by decide +kernel
theorem dJ6_bitCount_0f7a4_33 : decode cJ6_bitCount_0f7a4 33 = .ok (.istore_n 0, 1) := by decide +kernel
theorem dJ6_bitCount_0f7a4_34 : decode cJ6_bitCount_0f7a4 34 = .ok (.iload_n 0, 1) := by decide +kernel
theorem dJ6_bitCount_0f7a4_35 : decode cJ6_bitCount_0f7a4 35 = .ok (.iload_n 0, 1) := by decide +kernel
theorem dJ6_bitCount_0f7a4_36 : decode cJ6_bitCount_0f7a4 36 = .ok (.bipush 8, 2) := by decide +kernel
theorem dJ6_bitCount_0f7a4_38 : decode cJ6_bitCount_0f7a4 38 = .ok (.iushr, 1) := by decide +kernel
theorem dJ6_bitCount_0f7a4_39 : decode cJ6_bitCount_0f7a4 39 = .ok (.iadd, 1) := by decide +kernel
theorem dJ6_bitCount_0f7a4_40 : decode cJ6_bitCount_0f7a4 40 = .ok (.istore_n 0, 1) := by decide +kernel
theorem dJ6_bitCount_0f7a4_41 : decode cJ6_bitCount_0f7a4 41 = .ok (.iload_n 0, 1) := by decide +kernel
theorem dJ6_bitCount_0f7a4_42 : decode cJ6_bitCount_0f7a4 42 = .ok (.iload_n 0, 1) := by decide +kernel
theorem dJ6_bitCount_0f7a4_43 : decode cJ6_bitCount_0f7a4 43 = .ok (.bipush 16, 2) := by decide +kernel
theorem dJ6_bitCount_0f7a4_45 : decode cJ6_bitCount_0f7a4 45 = .ok (.iushr, 1) := by decide +kernel
theorem dJ6_bitCount_0f7a4_46 : decode cJ6_bitCount_0f7a4 46 = .ok (.iadd, 1) := by decide +kernel
theorem dJ6_bitCount_0f7a4_47 : decode cJ6_bitCount_0f7a4 47 = .ok (.istore_n 0, 1) := by decide +kernel
theorem dJ6_bitCount_0f7a4_48 : decode cJ6_bitCount_0f7a4 48 = .ok (.iload_n 0, 1) := by decide +kernel
theorem dJ6_bitCount_0f7a4_49 : decode cJ6_bitCount_0f7a4 49 = .ok (.bipush 63, 2) := by decide +kernel
theorem dJ6_bitCount_0f7a4_51 : decode cJ6_bitCount_0f7a4 51 = .ok (.iand, 1) := by decide +kernel
theorem dJ6_bitCount_0f7a4_52 : decode cJ6_bitCount_0f7a4 52 = .ok (.ireturn, 1) := by decide +kernel
theorem dJ7_fill_53178_0 : decode cJ7_fill_53178 0 = .ok (.iconst 0, 1) := by decide +kernel
theorem dJ7_fill_53178_1 : decode cJ7_fill_53178 1 = .ok (.istore_n 2, 1) := by decide +kernel
theorem dJ7_fill_53178_2 : decode cJ7_fill_53178 2 = .ok (.aload_n 0, 1) := by decide +kernel
theorem dJ7_fill_53178_3 : decode cJ7_fill_53178 3 = .ok (.arraylength, 1) := by decide +kernel
theorem dJ7_fill_53178_4 : decode cJ7_fill_53178 4 = .ok (.istore_n 3, 1) := by decide +kernel
theorem dJ7_fill_53178_5 : decode cJ7_fill_53178 5 = .ok (.iload_n 2, 1) := by decide +kernel
theorem dJ7_fill_53178_6 : decode cJ7_fill_53178 6 = .ok (.iload_n 3, 1) := by decide +kernel
theorem dJ7_fill_53178_7 : decode cJ7_fill_53178 7 = .ok (.if_icmp .ge 13, 3) := by decide +kernel
theorem dJ7_fill_53178_10 : decode cJ7_fill_53178 10 = .ok (.aload_n 0, 1) := by decide +kernel
theorem dJ7_fill_53178_11 : decode cJ7_fill_53178 11 = .ok (.iload_n 2, 1) := by decide +kernel
theorem dJ7_fill_53178_12 : decode cJ7_fill_53178 12 = .ok (.iload_n 1, 1) := by decide +kernel
theorem dJ7_fill_53178_13 : decode cJ7_fill_53178 13 = .ok (.iastore, 1) := by decide +kernel
theorem dJ7_fill_53178_14 : decode cJ7_fill_53178 14 = .ok (.iinc 2 1, 3) := by decide +kernel
theorem dJ7_fill_53178_17 : decode cJ7_fill_53178 17 = .ok (.goto (-12), 3) := by decide +kernel
theorem dJ7_fill_53178_20 : decode cJ7_fill_53178 20 = .ok (.return_, 1) := by decide +kernel
theorem dJ7_rangeCheck_23922_0 : decode cJ7_rangeCheck_23922 0 = .ok (.iload_n 1, 1) := by decide +kernel
theorem dJ7_rangeCheck_23922_1 : decode cJ7_rangeCheck_23922 1 = .ok (.iload_n 2, 1) := by decide +kernel
theorem dJ7_rangeCheck_23922_2 : decode cJ7_rangeCheck_23922 2 = .ok (.if_icmp .le 44, 3) := by decide +kernel
theorem dJ7_rangeCheck_23922_5 : decode cJ7_rangeCheck_23922 5 = .ok (.new 43, 3) := by decide +kernel
theorem dJ7_rangeCheck_23922_8 : decode cJ7_rangeCheck_23922 8 = .ok (.dup, 1) := by decide +kernel
theorem dJ7_rangeCheck_23922_9 : decode cJ7_rangeCheck_23922 9 = .ok (.new 45, 3) := by decide +kernel
theorem dJ7_rangeCheck_23922_12 : decode cJ7_rangeCheck_23922 12 = .ok (.dup, 1) := by decide +kernel
theorem dJ7_rangeCheck_23922_13 : decode cJ7_rangeCheck_23922 13 = .ok (.invokespecial 47, 3) := by decide +kernel
theorem dJ7_rangeCheck_23922_16 : decode cJ7_rangeCheck_23922 16 = .ok (.ldc 48, 2) := by decide +kernel
theorem dJ7_rangeCheck_23922_18 : decode cJ7_rangeCheck_23922 18 = .ok (.invokevirtual 50, 3) := by decide +kernel
theorem dJ7_rangeCheck_23922_21 : decode cJ7_rangeCheck_23922 21 = .ok (.iload_n 1, 1) := by decide +kernel
theorem dJ7_rangeCheck_23922_22 : decode cJ7_rangeCheck_23922 22 = .ok (.invokevirtual 54, 3) := by decide +kernel
theorem dJ7_rangeCheck_23922_25 : decode cJ7_rangeCheck_23922 25 = .ok (.ldc 57, 2) := by decide +kernel
theorem dJ7_rangeCheck_23922_27 : decode cJ7_rangeCheck_23922 27 = .ok (.invokevirtual 50, 3) := by decide +kernel
theorem dJ7_rangeCheck_23922_30 : decode cJ7_rangeCheck_23922 30 = .ok (.iload_n 2, 1) := by decide +kernel
theorem dJ7_rangeCheck_23922_31 : decode cJ7_rangeCheck_23922 31 = .ok (.invokevirtual 54, 3) := by decide +kernel
theorem dJ7_rangeCheck_23922_34 : decode cJ7_rangeCheck_23922 34 = .ok (.ldc 59, 2) := by decide +kernel
theorem dJ7_rangeCheck_23922_36 : decode cJ7_rangeCheck_23922 36 = .ok (.invokevirtual 50, 3) := by decide +kernel
theorem dJ7_rangeCheck_23922_39 : decode cJ7_rangeCheck_23922 39 = .ok (.invokevirtual 61, 3) := by decide +kernel
theorem dJ7_rangeCheck_23922_42 : decode cJ7_rangeCheck_23922 42 = .ok (.invokespecial 65, 3) := by decide +kernel
theorem dJ7_rangeCheck_23922_45 : decode cJ7_rangeCheck_23922 45 = .ok (.athrow, 1) := by decide +kernel
theorem dJ7_rangeCheck_23922_46 : decode cJ7_rangeCheck_23922 46 = .ok (.iload_n 1, 1) := by decide +kernel
theorem dJ7_rangeCheck_23922_47 : decode cJ7_rangeCheck_23922 47 = .ok (.ifCond .ge 12, 3) := by decide +kernel
theorem dJ7_rangeCheck_23922_50 : decode cJ7_rangeCheck_23922 50 = .ok (.new 68, 3) := by decide +kernel
theorem dJ7_rangeCheck_23922_53 : decode cJ7_rangeCheck_23922 53 = .ok (.dup, 1) := by decide +kernel
theorem dJ7_rangeCheck_23922_54 : decode cJ7_rangeCheck_23922 54 = .ok (.iload_n 1, 1) := by decide +kernel
theorem dJ7_rangeCheck_23922_55 : decode cJ7_rangeCheck_23922 55 = .ok (.invokespecial 70, 3) := by decide +kernel
theorem dJ7_rangeCheck_23922_58 : decode cJ7_rangeCheck_23922 58 = .ok (.athrow, 1) := by decide +kernel
theorem dJ7_rangeCheck_23922_59 : decode cJ7_rangeCheck_23922 59 = .ok (.iload_n 2, 1) := by decide +kernel
theorem dJ7_rangeCheck_23922_60 : decode cJ7_rangeCheck_23922 60 = .ok (.iload_n 0, 1) := by decide +kernel
theorem dJ7_rangeCheck_23922_61 : decode cJ7_rangeCheck_23922 61 = .ok (.if_icmp .le 12, 3) := by decide +kernel
theorem dJ7_rangeCheck_23922_64 : decode cJ7_rangeCheck_23922 64 = .ok (.new 68, 3) := by decide +kernel
theorem dJ7_rangeCheck_23922_67 : decode cJ7_rangeCheck_23922 67 = .ok (.dup, 1) := by decide +kernel
theorem dJ7_rangeCheck_23922_68 : decode cJ7_rangeCheck_23922 68 = .ok (.iload_n 2, 1) := by decide +kernel
theorem dJ7_rangeCheck_23922_69 : decode cJ7_rangeCheck_23922 69 = .ok (.invokespecial 70, 3) := by decide +kernel
theorem dJ7_rangeCheck_23922_72 : decode cJ7_rangeCheck_23922 72 = .ok (.athrow, 1) := by decide +kernel
theorem dJ7_rangeCheck_23922_73 : decode cJ7_rangeCheck_23922 73 = .ok (.return_, 1) := by decide +kernel
theorem dJ7_fill_fda19_0 : decode cJ7_fill_fda19 0 = .ok (.aload_n 0, 1) := by decide +kernel
theorem dJ7_fill_fda19_1 : decode cJ7_fill_fda19 1 = .ok (.arraylength, 1) := by decide +kernel
theorem dJ7_fill_fda19_2 : decode cJ7_fill_fda19 2 = .ok (.iload_n 1, 1) := by decide +kernel
theorem dJ7_fill_fda19_3 : decode cJ7_fill_fda19 3 = .ok (.iload_n 2, 1) := by decide +kernel
theorem dJ7_fill_fda19_4 : decode cJ7_fill_fda19 4 = .ok (.invokestatic 13, 3) := by decide +kernel
theorem dJ7_fill_fda19_7 : decode cJ7_fill_fda19 7 = .ok (.iload_n 1, 1) := by decide +kernel
theorem dJ7_fill_fda19_8 : decode cJ7_fill_fda19 8 = .ok (.istore 4, 2) := by decide +kernel
theorem dJ7_fill_fda19_10 : decode cJ7_fill_fda19 10 = .ok (.iload 4, 2) := by decide +kernel
theorem dJ7_fill_fda19_12 : decode cJ7_fill_fda19 12 = .ok (.iload_n 2, 1) := by decide +kernel
theorem dJ7_fill_fda19_13 : decode cJ7_fill_fda19 13 = .ok (.if_icmp .ge 14, 3) := by decide +kernel
theorem dJ7_fill_fda19_16 : decode cJ7_fill_fda19 16 = .ok (.aload_n 0, 1) := by decide +kernel
theorem dJ7_fill_fda19_17 : decode cJ7_fill_fda19 17 = .ok (.iload 4, 2) := by decide +kernel
theorem dJ7_fill_fda19_19 : decode cJ7_fill_fda19 19 = .ok (.iload_n 3, 1) := by decide +kernel
theorem dJ7_fill_fda19_20 : decode cJ7_fill_fda19 20 = .ok (.iastore, 1) := by decide +kernel
theorem dJ7_fill_fda19_21 : decode cJ7_fill_fda19 21 = .ok (.iinc 4 1, 3) := by decide +kernel
theorem dJ7_fill_fda19_24 : decode cJ7_fill_fda19 24 = .ok (.goto (-14), 3) := by decide +kernel
theorem dJ7_fill_fda19_27 : decode cJ7_fill_fda19 27 = .ok (.return_, 1) := by decide +kernel
theorem dX0_draw_0 : decode cX0_draw 0 = .ok (.aload_n 0, 1) := by decide +kernel
theorem dX0_draw_1 : decode cX0_draw 1 = .ok (.ldc2_w 7, 3) := by decide +kernel
theorem dX0_draw_4 : decode cX0_draw 4 = .ok (.aload_n 0, 1) := by decide +kernel
theorem dX0_draw_5 : decode cX0_draw 5 = .ok (.getfield 9, 3) := by decide +kernel
theorem dX0_draw_8 : decode cX0_draw 8 = .ok (.lmul, 1) := by decide +kernel
theorem dX0_draw_9 : decode cX0_draw 9 = .ok (.ldc2_w 15, 3) := by decide +kernel
theorem dX0_draw_12 : decode cX0_draw 12 = .ok (.ladd, 1) := by decide +kernel
theorem dX0_draw_13 : decode cX0_draw 13 = .ok (.ldc2_w 17, 3) := by decide +kernel
theorem dX0_draw_16 : decode cX0_draw 16 = .ok (.lrem, 1) := by decide +kernel
theorem dX0_draw_17 : decode cX0_draw 17 = .ok (.putfield 9, 3) := by decide +kernel
theorem dX0_draw_20 : decode cX0_draw 20 = .ok (.iload_n 1, 1) := by decide +kernel
theorem dX0_draw_21 : decode cX0_draw 21 = .ok (.ifCond .le 18, 3) := by decide +kernel
theorem dX0_draw_24 : decode cX0_draw 24 = .ok (.aload_n 0, 1) := by decide +kernel
theorem dX0_draw_25 : decode cX0_draw 25 = .ok (.getfield 9, 3) := by decide +kernel
theorem dX0_draw_28 : decode cX0_draw 28 = .ok (.ldc2_w 19, 3) := by decide +kernel
theorem dX0_draw_31 : decode cX0_draw 31 = .ok (.ldiv, 1) := by decide +kernel
theorem dX0_draw_32 : decode cX0_draw 32 = .ok (.iload_n 1, 1) := by decide +kernel
theorem dX0_draw_33 : decode cX0_draw 33 = .ok (.i2l, 1) := by decide +kernel
theorem dX0_draw_34 : decode cX0_draw 34 = .ok (.lrem, 1) := by decide +kernel
theorem dX0_draw_35 : decode cX0_draw 35 = .ok (.l2i, 1) := by decide +kernel
theorem dX0_draw_36 : decode cX0_draw 36 = .ok (.goto 4, 3) := by decide +kernel
theorem dX0_draw_39 : decode cX0_draw 39 = .ok (.iconst 0, 1) := by decide +kernel
theorem dX0_draw_40 : decode cX0_draw 40 = .ok (.ireturn, 1) := by decide +kernel
theorem dX10_isWithin_0 : decode cX10_isWithin 0 = .ok (.iload_n 0, 1) := by decide +kernel
theorem dX10_isWithin_1 : decode cX10_isWithin 1 = .ok (.iload_n 1, 1) := by decide +kernel
theorem dX10_isWithin_2 : decode cX10_isWithin 2 = .ok (.if_icmp .lt 12, 3) := by decide +kernel
theorem dX10_isWithin_5 : decode cX10_isWithin 5 = .ok (.iload_n 0, 1) := by decide +kernel
theorem dX10_isWithin_6 : decode cX10_isWithin 6 = .ok (.iload_n 2, 1) := by decide +kernel
theorem dX10_isWithin_7 : decode cX10_isWithin 7 = .ok (.if_icmp .gt 7, 3) := by decide +kernel
theorem dX10_isWithin_10 : decode cX10_isWithin 10 = .ok (.iconst 1, 1) := by decide +kernel
theorem dX10_isWithin_11 : decode cX10_isWithin 11 = .ok (.goto 4, 3) := by decide +kernel
theorem dX10_isWithin_14 : decode cX10_isWithin 14 = .ok (.iconst 0, 1) := by decide +kernel
theorem dX10_isWithin_15 : decode cX10_isWithin 15 = .ok (.ireturn, 1) := by decide +kernel
theorem dX10_areShades_0 : decode cX10_areShades 0 = .ok (.iload_n 0, 1) := by decide +kernel
theorem dX10_areShades_1 : decode cX10_areShades 1 = .ok (.iconst 0, 1) := by decide +kernel
theorem dX10_areShades_2 : decode cX10_areShades 2 = .ok (.bipush 99, 2) := by decide +kernel
theorem dX10_areShades_4 : decode cX10_areShades 4 = .ok (.invokestatic 133, 3) := by decide +kernel
theorem dX10_areShades_7 : decode cX10_areShades 7 = .ok (.ifCond .eq 27, 3) := by decide +kernel
theorem dX10_areShades_10 : decode cX10_areShades 10 = .ok (.iload_n 1, 1) := by decide +kernel
theorem dX10_areShades_11 : decode cX10_areShades 11 = .ok (.iconst 0, 1) := by decide +kernel
theorem dX10_areShades_12 : decode cX10_areShades 12 = .ok (.bipush 99, 2) := by decide +kernel
theorem dX10_areShades_14 : decode cX10_areShades 14 = .ok (.invokestatic 133, 3) := by decide +kernel
theorem dX10_areShades_17 : decode cX10_areShades 17 = .ok (.ifCond .eq 17, 3) := by decide +kernel
theorem dX10_areShades_20 : decode cX10_areShades 20 = .ok (.iload_n 2, 1) := by decide +kernel
theorem dX10_areShades_21 : decode cX10_areShades 21 = .ok (.iconst 0, 1) := by decide +kernel
theorem dX10_areShades_22 : decode cX10_areShades 22 = .ok (.bipush 99, 2) := by decide +kernel
theorem dX10_areShades_24 : decode cX10_areShades 24 = .ok (.invokestatic 133, 3) := by decide +kernel
theorem dX10_areShades_27 : decode cX10_areShades 27 = .ok (.ifCond .eq 7, 3) := by decide +kernel
theorem dX10_areShades_30 : decode cX10_areShades 30 = .ok (.iconst 1, 1) := by decide +kernel
theorem dX10_areShades_31 : decode cX10_areShades 31 = .ok (.goto 4, 3) := by decide +kernel
theorem dX10_areShades_34 : decode cX10_areShades 34 = .ok (.iconst 0, 1) := by decide +kernel
theorem dX10_areShades_35 : decode cX10_areShades 35 = .ok (.ireturn, 1) := by decide +kernel
theorem dX1_cells_0 : decode cX1_cells 0 = .ok (.aload_n 0, 1) := by decide +kernel
theorem dX1_cells_1 : decode cX1_cells 1 = .ok (.getfield 43, 3) := by decide +kernel
theorem dX1_cells_4 : decode cX1_cells 4 = .ok (.aload_n 0, 1) := by decide +kernel
theorem dX1_cells_5 : decode cX1_cells 5 = .ok (.getfield 47, 3) := by decide +kernel
theorem dX1_cells_8 : decode cX1_cells 8 = .ok (.imul, 1) := by decide +kernel
theorem dX1_cells_9 : decode cX1_cells 9 = .ok (.ireturn, 1) := by decide +kernel
theorem dX10_isCell_0 : decode cX10_isCell 0 = .ok (.iload_n 1, 1) := by decide +kernel
theorem dX10_isCell_1 : decode cX10_isCell 1 = .ok (.iconst 0, 1) := by decide +kernel
theorem dX10_isCell_2 : decode cX10_isCell 2 = .ok (.aload_n 0, 1) := by decide +kernel
theorem dX10_isCell_3 : decode cX10_isCell 3 = .ok (.getfield 24, 3) := by decide +kernel
theorem dX10_isCell_6 : decode cX10_isCell 6 = .ok (.getfield 110, 3) := by decide +kernel
theorem dX10_isCell_9 : decode cX10_isCell 9 = .ok (.invokevirtual 296, 3) := by decide +kernel
theorem dX10_isCell_12 : decode cX10_isCell 12 = .ok (.iconst 1, 1) := by decide +kernel
theorem dX10_isCell_13 : decode cX10_isCell 13 = .ok (.isub, 1) := by decide +kernel
theorem dX10_isCell_14 : decode cX10_isCell 14 = .ok (.invokestatic 133, 3) := by decide +kernel
theorem dX10_isCell_17 : decode cX10_isCell 17 = .ok (.ireturn, 1) := by decide +kernel
theorem dX10_mayTell_0 : decode cX10_mayTell 0 = .ok (.iload_n 1, 1) := by decide +kernel
theorem dX10_mayTell_1 : decode cX10_mayTell 1 = .ok (.aload_n 0, 1) := by decide +kernel
theorem dX10_mayTell_2 : decode cX10_mayTell 2 = .ok (.getfield 44, 3) := by decide +kernel
theorem dX10_mayTell_5 : decode cX10_mayTell 5 = .ok (.getfield 338, 3) := by decide +kernel
theorem dX10_mayTell_8 : decode cX10_mayTell 8 = .ok (.sipush 999, 3) := by decide +kernel
theorem dX10_mayTell_11 : decode cX10_mayTell 11 = .ok (.invokestatic 133, 3) := by decide +kernel
theorem dX10_mayTell_14 : decode cX10_mayTell 14 = .ok (.ireturn, 1) := by decide +kernel
theorem dX8_putEntry_0 : decode cX8_putEntry 0 = .ok (.aload_n 1, 1) := by decide +kernel
theorem dX8_putEntry_1 : decode cX8_putEntry 1 = .ok (.iload_n 2, 1) := by decide +kernel
theorem dX8_putEntry_2 : decode cX8_putEntry 2 = .ok (.iload_n 3, 1) := by decide +kernel
theorem dX8_putEntry_3 : decode cX8_putEntry 3 = .ok (.iastore, 1) := by decide +kernel
theorem dX8_putEntry_4 : decode cX8_putEntry 4 = .ok (.aload_n 1, 1) := by decide +kernel
theorem dX8_putEntry_5 : decode cX8_putEntry 5 = .ok (.iload_n 2, 1) := by decide +kernel
theorem dX8_putEntry_6 : decode cX8_putEntry 6 = .ok (.iconst 1, 1) := by decide +kernel
theorem dX8_putEntry_7 : decode cX8_putEntry 7 = .ok (.iadd, 1) := by decide +kernel
theorem dX8_putEntry_8 : decode cX8_putEntry 8 = .ok (.iload 4, 2) := by decide +kernel
theorem dX8_putEntry_10 : decode cX8_putEntry 10 = .ok (.iastore, 1) := by decide +kernel
theorem dX8_putEntry_11 : decode cX8_putEntry 11 = .ok (.aload_n 1, 1) := by decide +kernel
theorem dX8_putEntry_12 : decode cX8_putEntry 12 = .ok (.iload_n 2, 1) := by decide +kernel
theorem dX8_putEntry_13 : decode cX8_putEntry 13 = .ok (.iconst 2, 1) := by decide +kernel
theorem dX8_putEntry_14 : decode cX8_putEntry 14 = .ok (.iadd, 1) := by decide +kernel
theorem dX8_putEntry_15 : decode cX8_putEntry 15 = .ok (.iload 5, 2) := by decide +kernel
theorem dX8_putEntry_17 : decode cX8_putEntry 17 = .ok (.iastore, 1) := by decide +kernel
theorem dX8_putEntry_18 : decode cX8_putEntry 18 = .ok (.aload_n 0, 1) := by decide +kernel
theorem dX8_putEntry_19 : decode cX8_putEntry 19 = .ok (.iload_n 3, 1) := by decide +kernel
theorem dX8_putEntry_20 : decode cX8_putEntry 20 = .ok (.putfield 31, 3) := by decide +kernel
theorem dX8_putEntry_23 : decode cX8_putEntry 23 = .ok (.return_, 1) := by decide +kernel
theorem dX8_putShades_0 : decode cX8_putShades 0 = .ok (.aload_n 0, 1) := by decide +kernel
theorem dX8_putShades_1 : decode cX8_putShades 1 = .ok (.iload_n 1, 1) := by decide +kernel
theorem dX8_putShades_2 : decode cX8_putShades 2 = .ok (.iconst 3, 1) := by decide +kernel
theorem dX8_putShades_3 : decode cX8_putShades 3 = .ok (.iadd, 1) := by decide +kernel
theorem dX8_putShades_4 : decode cX8_putShades 4 = .ok (.iload_n 2, 1) := by decide +kernel
theorem dX8_putShades_5 : decode cX8_putShades 5 = .ok (.iastore, 1) := by decide +kernel
theorem dX8_putShades_6 : decode cX8_putShades 6 = .ok (.aload_n 0, 1) := by decide +kernel
theorem dX8_putShades_7 : decode cX8_putShades 7 = .ok (.iload_n 1, 1) := by decide +kernel
theorem dX8_putShades_8 : decode cX8_putShades 8 = .ok (.iconst 4, 1) := by decide +kernel
theorem dX8_putShades_9 : decode cX8_putShades 9 = .ok (.iadd, 1) := by decide +kernel
theorem dX8_putShades_10 : decode cX8_putShades 10 = .ok (.iload_n 3, 1) := by decide +kernel
theorem dX8_putShades_11 : decode cX8_putShades 11 = .ok (.iastore, 1) := by decide +kernel
theorem dX8_putShades_12 : decode cX8_putShades 12 = .ok (.aload_n 0, 1) := by decide +kernel
theorem dX8_putShades_13 : decode cX8_putShades 13 = .ok (.iload_n 1, 1) := by decide +kernel
theorem dX8_putShades_14 : decode cX8_putShades 14 = .ok (.iconst 5, 1) := by decide +kernel
theorem dX8_putShades_15 : decode cX8_putShades 15 = .ok (.iadd, 1) := by decide +kernel
theorem dX8_putShades_16 : decode cX8_putShades 16 = .ok (.iload 4, 2) := by decide +kernel
theorem dX8_putShades_18 : decode cX8_putShades 18 = .ok (.iastore, 1) := by decide +kernel
theorem dX8_putShades_19 : decode cX8_putShades 19 = .ok (.return_, 1) := by decide +kernel
theorem dX8_addTried_0 : decode cX8_addTried 0 = .ok (.aload_n 0, 1) := by decide +kernel
theorem dX8_addTried_1 : decode cX8_addTried 1 = .ok (.getfield 25, 3) := by decide +kernel
theorem dX8_addTried_4 : decode cX8_addTried 4 = .ok (.bipush 20, 2) := by decide +kernel
theorem dX8_addTried_6 : decode cX8_addTried 6 = .ok (.if_icmp .ge 51, 3) := by decide +kernel
theorem dX8_addTried_9 : decode cX8_addTried 9 = .ok (.aload_n 0, 1) := by decide +kernel
theorem dX8_addTried_10 : decode cX8_addTried 10 = .ok (.aload_n 0, 1) := by decide +kernel
theorem dX8_addTried_11 : decode cX8_addTried 11 = .ok (.getfield 15, 3) := by decide +kernel
theorem dX8_addTried_14 : decode cX8_addTried 14 = .ok (.aload_n 0, 1) := by decide +kernel
theorem dX8_addTried_15 : decode cX8_addTried 15 = .ok (.getfield 25, 3) := by decide +kernel
theorem dX8_addTried_18 : decode cX8_addTried 18 = .ok (.bipush 6, 2) := by decide +kernel
theorem dX8_addTried_20 : decode cX8_addTried 20 = .ok (.imul, 1) := by decide +kernel
theorem dX8_addTried_21 : decode cX8_addTried 21 = .ok (.iload_n 1, 1) := by decide +kernel
theorem dX8_addTried_22 : decode cX8_addTried 22 = .ok (.iload_n 2, 1) := by decide +kernel
theorem dX8_addTried_23 : decode cX8_addTried 23 = .ok (.iload_n 3, 1) := by decide +kernel
theorem dX8_addTried_24 : decode cX8_addTried 24 = .ok (.invokevirtual 40, 3) := by decide +kernel
theorem dX8_addTried_27 : decode cX8_addTried 27 = .ok (.aload_n 0, 1) := by decide +kernel
theorem dX8_addTried_28 : decode cX8_addTried 28 = .ok (.getfield 15, 3) := by decide +kernel
theorem dX8_addTried_31 : decode cX8_addTried 31 = .ok (.aload_n 0, 1) := by decide +kernel
theorem dX8_addTried_32 : decode cX8_addTried 32 = .ok (.getfield 25, 3) := by decide +kernel
theorem dX8_addTried_35 : decode cX8_addTried 35 = .ok (.bipush 6, 2) := by decide +kernel
theorem dX8_addTried_37 : decode cX8_addTried 37 = .ok (.imul, 1) := by decide +kernel
theorem dX8_addTried_38 : decode cX8_addTried 38 = .ok (.iload 4, 2) := by decide +kernel
theorem dX8_addTried_40 : decode cX8_addTried 40 = .ok (.iload 5, 2) := by decide +kernel
theorem dX8_addTried_42 : decode cX8_addTried 42 = .ok (.iload 6, 2) := by decide +kernel
theorem dX8_addTried_44 : decode cX8_addTried 44 = .ok (.invokestatic 44, 3) := by decide +kernel
theorem dX8_addTried_47 : decode cX8_addTried 47 = .ok (.aload_n 0, 1) := by decide +kernel
theorem dX8_addTried_48 : decode cX8_addTried 48 = .ok (.dup, 1) := by decide +kernel
theorem dX8_addTried_49 : decode cX8_addTried 49 = .ok (.getfield 25, 3) := by decide +kernel
theorem dX8_addTried_52 : decode cX8_addTried 52 = .ok (.iconst 1, 1) := by decide +kernel
theorem dX8_addTried_53 : decode cX8_addTried 53 = .ok (.iadd, 1) := by decide +kernel
theorem dX8_addTried_54 : decode cX8_addTried 54 = .ok (.putfield 25, 3) := by decide +kernel
theorem dX8_addTried_57 : decode cX8_addTried 57 = .ok (.return_, 1) := by decide +kernel
theorem dX10_attempt_0 : decode cX10_attempt 0 = .ok (.aload_n 0, 1) := by decide +kernel
theorem dX10_attempt_1 : decode cX10_attempt 1 = .ok (.iload_n 1, 1) := by decide +kernel
theorem dX10_attempt_2 : decode cX10_attempt 2 = .ok (.invokevirtual 193, 3) := by decide +kernel
theorem dX10_attempt_5 : decode cX10_attempt 5 = .ok (.ifCond .eq 34, 3) := by decide +kernel
theorem dX10_attempt_8 : decode cX10_attempt 8 = .ok (.aload_n 0, 1) := by decide +kernel
theorem dX10_attempt_9 : decode cX10_attempt 9 = .ok (.iload_n 2, 1) := by decide +kernel
theorem dX10_attempt_10 : decode cX10_attempt 10 = .ok (.invokevirtual 196, 3) := by decide +kernel
theorem dX10_attempt_13 : decode cX10_attempt 13 = .ok (.ifCond .eq 26, 3) := by decide +kernel
theorem dX10_attempt_16 : decode cX10_attempt 16 = .ok (.iload_n 3, 1) := by decide +kernel
theorem dX10_attempt_17 : decode cX10_attempt 17 = .ok (.iconst 1, 1) := by decide +kernel
theorem dX10_attempt_18 : decode cX10_attempt 18 = .ok (.sipush 999, 3) := by decide +kernel
theorem dX10_attempt_21 : decode cX10_attempt 21 = .ok (.invokestatic 133, 3) := by decide +kernel
theorem dX10_attempt_24 : decode cX10_attempt 24 = .ok (.ifCond .eq 15, 3) := by decide +kernel
theorem dX10_attempt_27 : decode cX10_attempt 27 = .ok (.iload 4, 2) := by decide +kernel
theorem dX10_attempt_29 : decode cX10_attempt 29 = .ok (.iload 5, 2) := by decide +kernel
theorem dX10_attempt_31 : decode cX10_attempt 31 = .ok (.iload 6, 2) := by decide +kernel
theorem dX10_attempt_33 : decode cX10_attempt 33 = .ok (.invokestatic 199, 3) := by decide +kernel
theorem dX10_attempt_36 : decode cX10_attempt 36 = .ok (.ifCond .ne 6, 3) := by decide +kernel
theorem dX10_attempt_39 : decode cX10_attempt 39 = .ok (.bipush (-2), 2) := by decide +kernel
theorem dX10_attempt_41 : decode cX10_attempt 41 = .ok (.ireturn, 1) := by decide +kernel
theorem dX10_attempt_42 : decode cX10_attempt 42 = .ok (.aload_n 0, 1) := by decide +kernel
theorem dX10_attempt_43 : decode cX10_attempt 43 = .ok (.getfield 44, 3) := by decide +kernel
theorem dX10_attempt_46 : decode cX10_attempt 46 = .ok (.getfield 209, 3) := by decide +kernel
theorem dX10_attempt_49 : decode cX10_attempt 49 = .ok (.bipush 20, 2) := by decide +kernel
theorem dX10_attempt_51 : decode cX10_attempt 51 = .ok (.if_icmp .lt 6, 3) := by decide +kernel
theorem dX10_attempt_54 : decode cX10_attempt 54 = .ok (.bipush (-3), 2) := by decide +kernel
theorem dX10_attempt_56 : decode cX10_attempt 56 = .ok (.ireturn, 1) := by decide +kernel
theorem dX10_attempt_57 : decode cX10_attempt 57 = .ok (.aload_n 0, 1) := by decide +kernel
theorem dX10_attempt_58 : decode cX10_attempt 58 = .ok (.getfield 44, 3) := by decide +kernel
theorem dX10_attempt_61 : decode cX10_attempt 61 = .ok (.iload_n 1, 1) := by decide +kernel
theorem dX10_attempt_62 : decode cX10_attempt 62 = .ok (.iload_n 2, 1) := by decide +kernel
theorem dX10_attempt_63 : decode cX10_attempt 63 = .ok (.iload_n 3, 1) := by decide +kernel
theorem dX10_attempt_64 : decode cX10_attempt 64 = .ok (.iload 4, 2) := by decide +kernel
theorem dX10_attempt_66 : decode cX10_attempt 66 = .ok (.iload 5, 2) := by decide +kernel
theorem dX10_attempt_68 : decode cX10_attempt 68 = .ok (.iload 6, 2) := by decide +kernel
theorem dX10_attempt_70 : decode cX10_attempt 70 = .ok (.invokevirtual 212, 3) := by decide +kernel
theorem dX10_attempt_73 : decode cX10_attempt 73 = .ok (.aload_n 0, 1) := by decide +kernel
theorem dX10_attempt_74 : decode cX10_attempt 74 = .ok (.getfield 44, 3) := by decide +kernel
theorem dX10_attempt_77 : decode cX10_attempt 77 = .ok (.getfield 209, 3) := by decide +kernel
theorem dX10_attempt_80 : decode cX10_attempt 80 = .ok (.iconst 1, 1) := by decide +kernel
theorem dX10_attempt_81 : decode cX10_attempt 81 = .ok (.isub, 1) := by decide +kernel
theorem dX10_attempt_82 : decode cX10_attempt 82 = .ok (.ireturn, 1) := by decide +kernel
theorem dX10_isStory_0 : decode cX10_isStory 0 = .ok (.iload_n 1, 1) := by decide +kernel
theorem dX10_isStory_1 : decode cX10_isStory 1 = .ok (.iconst 0, 1) := by decide +kernel
theorem dX10_isStory_2 : decode cX10_isStory 2 = .ok (.aload_n 0, 1) := by decide +kernel
theorem dX10_isStory_3 : decode cX10_isStory 3 = .ok (.getfield 24, 3) := by decide +kernel
theorem dX10_isStory_6 : decode cX10_isStory 6 = .ok (.getfield 110, 3) := by decide +kernel
theorem dX10_isStory_9 : decode cX10_isStory 9 = .ok (.getfield 146, 3) := by decide +kernel
theorem dX10_isStory_12 : decode cX10_isStory 12 = .ok (.iconst 1, 1) := by decide +kernel
theorem dX10_isStory_13 : decode cX10_isStory 13 = .ok (.isub, 1) := by decide +kernel
theorem dX10_isStory_14 : decode cX10_isStory 14 = .ok (.invokestatic 133, 3) := by decide +kernel
theorem dX10_isStory_17 : decode cX10_isStory 17 = .ok (.ireturn, 1) := by decide +kernel
theorem dX1_halved_0 : decode cX1_halved 0 = .ok (.iload_n 2, 1) := by decide +kernel
theorem dX1_halved_1 : decode cX1_halved 1 = .ok (.ifCond .le 9, 3) := by decide +kernel
theorem dX1_halved_4 : decode cX1_halved 4 = .ok (.iload_n 1, 1) := by decide +kernel
theorem dX1_halved_5 : decode cX1_halved 5 = .ok (.iload_n 2, 1) := by decide +kernel
theorem dX1_halved_6 : decode cX1_halved 6 = .ok (.idiv, 1) := by decide +kernel
theorem dX1_halved_7 : decode cX1_halved 7 = .ok (.goto 4, 3) := by decide +kernel
theorem dX1_halved_10 : decode cX1_halved 10 = .ok (.iconst 0, 1) := by decide +kernel
theorem dX1_halved_11 : decode cX1_halved 11 = .ok (.istore_n 3, 1) := by decide +kernel
theorem dX1_halved_12 : decode cX1_halved 12 = .ok (.iload_n 3, 1) := by decide +kernel
theorem dX1_halved_13 : decode cX1_halved 13 = .ok (.bipush 31, 2) := by decide +kernel
theorem dX1_halved_15 : decode cX1_halved 15 = .ok (.if_icmp .le 7, 3) := by decide +kernel
theorem dX1_halved_18 : decode cX1_halved 18 = .ok (.iconst 0, 1) := by decide +kernel
theorem dX1_halved_19 : decode cX1_halved 19 = .ok (.goto 6, 3) := by decide +kernel
theorem dX1_halved_22 : decode cX1_halved 22 = .ok (.iload_n 0, 1) := by decide +kernel
theorem dX1_halved_23 : decode cX1_halved 23 = .ok (.iload_n 3, 1) := by decide +kernel
theorem dX1_halved_24 : decode cX1_halved 24 = .ok (.ishr, 1) := by decide +kernel
theorem dX1_halved_25 : decode cX1_halved 25 = .ok (.ireturn, 1) := by decide +kernel
theorem dX1_strengthOf_0 : decode cX1_strengthOf 0 = .ok (.iload_n 1, 1) := by decide +kernel
theorem dX1_strengthOf_1 : decode cX1_strengthOf 1 = .ok (.bipush 6, 2) := by decide +kernel
theorem dX1_strengthOf_3 : decode cX1_strengthOf 3 = .ok (.imul, 1) := by decide +kernel
theorem dX1_strengthOf_4 : decode cX1_strengthOf 4 = .ok (.istore_n 3, 1) := by decide +kernel
theorem dX1_strengthOf_5 : decode cX1_strengthOf 5 = .ok (.aload_n 0, 1) := by decide +kernel
theorem dX1_strengthOf_6 : decode cX1_strengthOf 6 = .ok (.getfield 22, 3) := by decide +kernel
theorem dX1_strengthOf_9 : decode cX1_strengthOf 9 = .ok (.iload_n 3, 1) := by decide +kernel
theorem dX1_strengthOf_10 : decode cX1_strengthOf 10 = .ok (.iconst 3, 1) := by decide +kernel
theorem dX1_strengthOf_11 : decode cX1_strengthOf 11 = .ok (.iadd, 1) := by decide +kernel
theorem dX1_strengthOf_12 : decode cX1_strengthOf 12 = .ok (.iaload, 1) := by decide +kernel
theorem dX1_strengthOf_13 : decode cX1_strengthOf 13 = .ok (.istore 4, 2) := by decide +kernel
theorem dX1_strengthOf_15 : decode cX1_strengthOf 15 = .ok (.iload 4, 2) := by decide +kernel
theorem dX1_strengthOf_17 : decode cX1_strengthOf 17 = .ok (.iload_n 2, 1) := by decide +kernel
theorem dX1_strengthOf_18 : decode cX1_strengthOf 18 = .ok (.aload_n 0, 1) := by decide +kernel
theorem dX1_strengthOf_19 : decode cX1_strengthOf 19 = .ok (.getfield 22, 3) := by decide +kernel
theorem dX1_strengthOf_22 : decode cX1_strengthOf 22 = .ok (.iload_n 3, 1) := by decide +kernel
theorem dX1_strengthOf_23 : decode cX1_strengthOf 23 = .ok (.iconst 4, 1) := by decide +kernel
theorem dX1_strengthOf_24 : decode cX1_strengthOf 24 = .ok (.iadd, 1) := by decide +kernel
theorem dX1_strengthOf_25 : decode cX1_strengthOf 25 = .ok (.iaload, 1) := by decide +kernel
theorem dX1_strengthOf_26 : decode cX1_strengthOf 26 = .ok (.invokestatic 89, 3) := by decide +kernel
theorem dX1_strengthOf_29 : decode cX1_strengthOf 29 = .ok (.sipush 1000, 3) := by decide +kernel
theorem dX1_strengthOf_32 : decode cX1_strengthOf 32 = .ok (.iload 4, 2) := by decide +kernel
theorem dX1_strengthOf_34 : decode cX1_strengthOf 34 = .ok (.isub, 1) := by decide +kernel
theorem dX1_strengthOf_35 : decode cX1_strengthOf 35 = .ok (.iload_n 2, 1) := by decide +kernel
theorem dX1_strengthOf_36 : decode cX1_strengthOf 36 = .ok (.aload_n 0, 1) := by decide +kernel
theorem dX1_strengthOf_37 : decode cX1_strengthOf 37 = .ok (.getfield 22, 3) := by decide +kernel
theorem dX1_strengthOf_40 : decode cX1_strengthOf 40 = .ok (.iload_n 3, 1) := by decide +kernel
theorem dX1_strengthOf_41 : decode cX1_strengthOf 41 = .ok (.iconst 5, 1) := by decide +kernel
theorem dX1_strengthOf_42 : decode cX1_strengthOf 42 = .ok (.iadd, 1) := by decide +kernel
theorem dX1_strengthOf_43 : decode cX1_strengthOf 43 = .ok (.iaload, 1) := by decide +kernel
theorem dX1_strengthOf_44 : decode cX1_strengthOf 44 = .ok (.invokestatic 89, 3) := by decide +kernel
theorem dX1_strengthOf_47 : decode cX1_strengthOf 47 = .ok (.iadd, 1) := by decide +kernel
theorem dX1_strengthOf_48 : decode cX1_strengthOf 48 = .ok (.ireturn, 1) := by decide +kernel
theorem dX1_takesOf_0 : decode cX1_takesOf 0 = .ok (.aload_n 0, 1) := by decide +kernel
theorem dX1_takesOf_1 : decode cX1_takesOf 1 = .ok (.getfield 22, 3) := by decide +kernel
theorem dX1_takesOf_4 : decode cX1_takesOf 4 = .ok (.iload_n 1, 1) := by decide +kernel
theorem dX1_takesOf_5 : decode cX1_takesOf 5 = .ok (.bipush 6, 2) := by decide +kernel
theorem dX1_takesOf_7 : decode cX1_takesOf 7 = .ok (.imul, 1) := by decide +kernel
theorem dX1_takesOf_8 : decode cX1_takesOf 8 = .ok (.iload_n 2, 1) := by decide +kernel
theorem dX1_takesOf_9 : decode cX1_takesOf 9 = .ok (.iadd, 1) := by decide +kernel
theorem dX1_takesOf_10 : decode cX1_takesOf 10 = .ok (.iaload, 1) := by decide +kernel
theorem dX1_takesOf_11 : decode cX1_takesOf 11 = .ok (.ireturn, 1) := by decide +kernel
theorem dX9_takenBy_0 : decode cX9_takenBy 0 = .ok (.iload_n 1, 1) := by decide +kernel
theorem dX9_takenBy_1 : decode cX9_takenBy 1 = .ok (.bipush 45, 2) := by decide +kernel
theorem dX9_takenBy_3 : decode cX9_takenBy 3 = .ok (.if_icmp .lt 5, 3) := by decide +kernel
theorem dX9_takenBy_6 : decode cX9_takenBy 6 = .ok (.iconst 0, 1) := by decide +kernel
theorem dX9_takenBy_7 : decode cX9_takenBy 7 = .ok (.ireturn, 1) := by decide +kernel
theorem dX9_takenBy_8 : decode cX9_takenBy 8 = .ok (.iload_n 1, 1) := by decide +kernel
theorem dX9_takenBy_9 : decode cX9_takenBy 9 = .ok (.bipush 9, 2) := by decide +kernel
theorem dX9_takenBy_11 : decode cX9_takenBy 11 = .ok (.idiv, 1) := by decide +kernel
theorem dX9_takenBy_12 : decode cX9_takenBy 12 = .ok (.istore 4, 2) := by decide +kernel
theorem dX9_takenBy_14 : decode cX9_takenBy 14 = .ok (.iload_n 1, 1) := by decide +kernel
theorem dX9_takenBy_15 : decode cX9_takenBy 15 = .ok (.bipush 9, 2) := by decide +kernel
theorem dX9_takenBy_17 : decode cX9_takenBy 17 = .ok (.irem, 1) := by decide +kernel
theorem dX9_takenBy_18 : decode cX9_takenBy 18 = .ok (.iconst 1, 1) := by decide +kernel
theorem dX9_takenBy_19 : decode cX9_takenBy 19 = .ok (.iadd, 1) := by decide +kernel
theorem dX9_takenBy_20 : decode cX9_takenBy 20 = .ok (.aload_n 0, 1) := by decide +kernel
theorem dX9_takenBy_21 : decode cX9_takenBy 21 = .ok (.getfield 18, 3) := by decide +kernel
theorem dX9_takenBy_24 : decode cX9_takenBy 24 = .ok (.iload 4, 2) := by decide +kernel
theorem dX9_takenBy_26 : decode cX9_takenBy 26 = .ok (.iload_n 3, 1) := by decide +kernel
theorem dX9_takenBy_27 : decode cX9_takenBy 27 = .ok (.invokevirtual 38, 3) := by decide +kernel
theorem dX9_takenBy_30 : decode cX9_takenBy 30 = .ok (.imul, 1) := by decide +kernel
theorem dX9_takenBy_31 : decode cX9_takenBy 31 = .ok (.aload_n 0, 1) := by decide +kernel
theorem dX9_takenBy_32 : decode cX9_takenBy 32 = .ok (.getfield 18, 3) := by decide +kernel
theorem dX9_takenBy_35 : decode cX9_takenBy 35 = .ok (.iload 4, 2) := by decide +kernel
theorem dX9_takenBy_37 : decode cX9_takenBy 37 = .ok (.iload_n 2, 1) := by decide +kernel
theorem dX9_takenBy_38 : decode cX9_takenBy 38 = .ok (.invokevirtual 42, 3) := by decide +kernel
theorem dX9_takenBy_41 : decode cX9_takenBy 41 = .ok (.imul, 1) := by decide +kernel
theorem dX9_takenBy_42 : decode cX9_takenBy 42 = .ok (.sipush 9000, 3) := by decide +kernel
theorem dX9_takenBy_45 : decode cX9_takenBy 45 = .ok (.idiv, 1) := by decide +kernel
theorem dX9_takenBy_46 : decode cX9_takenBy 46 = .ok (.ireturn, 1) := by decide +kernel
theorem dX9_shadeOf_0 : decode cX9_shadeOf 0 = .ok (.iconst 0, 1) := by decide +kernel
theorem dX9_shadeOf_1 : decode cX9_shadeOf 1 = .ok (.bipush 99, 2) := by decide +kernel
theorem dX9_shadeOf_3 : decode cX9_shadeOf 3 = .ok (.aload_n 0, 1) := by decide +kernel
theorem dX9_shadeOf_4 : decode cX9_shadeOf 4 = .ok (.aload_n 0, 1) := by decide +kernel
theorem dX9_shadeOf_5 : decode cX9_shadeOf 5 = .ok (.getfield 11, 3) := by decide +kernel
theorem dX9_shadeOf_8 : decode cX9_shadeOf 8 = .ok (.iload_n 1, 1) := by decide +kernel
theorem dX9_shadeOf_9 : decode cX9_shadeOf 9 = .ok (.iaload, 1) := by decide +kernel
theorem dX9_shadeOf_10 : decode cX9_shadeOf 10 = .ok (.iload_n 2, 1) := by decide +kernel
theorem dX9_shadeOf_11 : decode cX9_shadeOf 11 = .ok (.iload_n 3, 1) := by decide +kernel
theorem dX9_shadeOf_12 : decode cX9_shadeOf 12 = .ok (.invokevirtual 45, 3) := by decide +kernel
theorem dX9_shadeOf_15 : decode cX9_shadeOf 15 = .ok (.isub, 1) := by decide +kernel
theorem dX9_shadeOf_16 : decode cX9_shadeOf 16 = .ok (.aload_n 0, 1) := by decide +kernel
theorem dX9_shadeOf_17 : decode cX9_shadeOf 17 = .ok (.aload_n 0, 1) := by decide +kernel
theorem dX9_shadeOf_18 : decode cX9_shadeOf 18 = .ok (.getfield 15, 3) := by decide +kernel
theorem dX9_shadeOf_21 : decode cX9_shadeOf 21 = .ok (.iload_n 1, 1) := by decide +kernel
theorem dX9_shadeOf_22 : decode cX9_shadeOf 22 = .ok (.iaload, 1) := by decide +kernel
theorem dX9_shadeOf_23 : decode cX9_shadeOf 23 = .ok (.iload_n 2, 1) := by decide +kernel
theorem dX9_shadeOf_24 : decode cX9_shadeOf 24 = .ok (.iload_n 3, 1) := by decide +kernel
theorem dX9_shadeOf_25 : decode cX9_shadeOf 25 = .ok (.invokevirtual 45, 3) := by decide +kernel
theorem dX9_shadeOf_28 : decode cX9_shadeOf 28 = .ok (.isub, 1) := by decide +kernel
theorem dX9_shadeOf_29 : decode cX9_shadeOf 29 = .ok (.invokestatic 49, 3) := by decide +kernel
theorem dX9_shadeOf_32 : decode cX9_shadeOf 32 = .ok (.ireturn, 1) := by decide +kernel
theorem dX10_yearsBorne_0 : decode cX10_yearsBorne 0 = .ok (.iload 5, 2) := by decide +kernel
theorem dX10_yearsBorne_2 : decode cX10_yearsBorne 2 = .ok (.istore 6, 2) := by decide +kernel
theorem dX10_yearsBorne_4 : decode cX10_yearsBorne 4 = .ok (.iconst 0, 1) := by decide +kernel
theorem dX10_yearsBorne_5 : decode cX10_yearsBorne 5 = .ok (.istore 7, 2) := by decide +kernel
theorem dX10_yearsBorne_7 : decode cX10_yearsBorne 7 = .ok (.iload 7, 2) := by decide +kernel
theorem dX10_yearsBorne_9 : decode cX10_yearsBorne 9 = .ok (.iconst 3, 1) := by decide +kernel
theorem dX10_yearsBorne_10 : decode cX10_yearsBorne 10 = .ok (.if_icmp .ge 57, 3) := by decide +kernel
theorem dX10_yearsBorne_13 : decode cX10_yearsBorne 13 = .ok (.aload_n 0, 1) := by decide +kernel
theorem dX10_yearsBorne_14 : decode cX10_yearsBorne 14 = .ok (.getfield 24, 3) := by decide +kernel
theorem dX10_yearsBorne_17 : decode cX10_yearsBorne 17 = .ok (.iload_n 1, 1) := by decide +kernel
theorem dX10_yearsBorne_18 : decode cX10_yearsBorne 18 = .ok (.iload_n 2, 1) := by decide +kernel
theorem dX10_yearsBorne_19 : decode cX10_yearsBorne 19 = .ok (.iload 7, 2) := by decide +kernel
theorem dX10_yearsBorne_21 : decode cX10_yearsBorne 21 = .ok (.invokevirtual 189, 3) := by decide +kernel
theorem dX10_yearsBorne_24 : decode cX10_yearsBorne 24 = .ok (.iload 4, 2) := by decide +kernel
theorem dX10_yearsBorne_26 : decode cX10_yearsBorne 26 = .ok (.iadd, 1) := by decide +kernel
theorem dX10_yearsBorne_27 : decode cX10_yearsBorne 27 = .ok (.istore 8, 2) := by decide +kernel
theorem dX10_yearsBorne_29 : decode cX10_yearsBorne 29 = .ok (.iload 6, 2) := by decide +kernel
theorem dX10_yearsBorne_31 : decode cX10_yearsBorne 31 = .ok (.ifCond .le 30, 3) := by decide +kernel
theorem dX10_yearsBorne_34 : decode cX10_yearsBorne 34 = .ok (.aload_n 0, 1) := by decide +kernel
theorem dX10_yearsBorne_35 : decode cX10_yearsBorne 35 = .ok (.getfield 24, 3) := by decide +kernel
theorem dX10_yearsBorne_38 : decode cX10_yearsBorne 38 = .ok (.iload_n 1, 1) := by decide +kernel
theorem dX10_yearsBorne_39 : decode cX10_yearsBorne 39 = .ok (.iload_n 2, 1) := by decide +kernel
theorem dX10_yearsBorne_40 : decode cX10_yearsBorne 40 = .ok (.iload 6, 2) := by decide +kernel
theorem dX10_yearsBorne_42 : decode cX10_yearsBorne 42 = .ok (.iload_n 3, 1) := by decide +kernel
theorem dX10_yearsBorne_43 : decode cX10_yearsBorne 43 = .ok (.imul, 1) := by decide +kernel
theorem dX10_yearsBorne_44 : decode cX10_yearsBorne 44 = .ok (.iadd, 1) := by decide +kernel
theorem dX10_yearsBorne_45 : decode cX10_yearsBorne 45 = .ok (.iload 7, 2) := by decide +kernel
theorem dX10_yearsBorne_47 : decode cX10_yearsBorne 47 = .ok (.invokevirtual 189, 3) := by decide +kernel
theorem dX10_yearsBorne_50 : decode cX10_yearsBorne 50 = .ok (.iload 8, 2) := by decide +kernel
theorem dX10_yearsBorne_52 : decode cX10_yearsBorne 52 = .ok (.if_icmp .le 9, 3) := by decide +kernel
theorem dX10_yearsBorne_55 : decode cX10_yearsBorne 55 = .ok (.iinc 6 (-1), 3) := by decide +kernel
theorem dX10_yearsBorne_58 : decode cX10_yearsBorne 58 = .ok (.goto (-29), 3) := by decide +kernel
theorem dX10_yearsBorne_61 : decode cX10_yearsBorne 61 = .ok (.iinc 7 1, 3) := by decide +kernel
theorem dX10_yearsBorne_64 : decode cX10_yearsBorne 64 = .ok (.goto (-57), 3) := by decide +kernel
theorem dX10_yearsBorne_67 : decode cX10_yearsBorne 67 = .ok (.iload 6, 2) := by decide +kernel
theorem dX10_yearsBorne_69 : decode cX10_yearsBorne 69 = .ok (.ireturn, 1) := by decide +kernel
theorem dX1_columnOf_0 : decode cX1_columnOf 0 = .ok (.aload_n 0, 1) := by decide +kernel
theorem dX1_columnOf_1 : decode cX1_columnOf 1 = .ok (.getfield 43, 3) := by decide +kernel
theorem dX1_columnOf_4 : decode cX1_columnOf 4 = .ok (.ifCond .le 12, 3) := by decide +kernel
theorem dX1_columnOf_7 : decode cX1_columnOf 7 = .ok (.iload_n 1, 1) := by decide +kernel
theorem dX1_columnOf_8 : decode cX1_columnOf 8 = .ok (.aload_n 0, 1) := by decide +kernel
theorem dX1_columnOf_9 : decode cX1_columnOf 9 = .ok (.getfield 43, 3) := by decide +kernel
theorem dX1_columnOf_12 : decode cX1_columnOf 12 = .ok (.irem, 1) := by decide +kernel
theorem dX1_columnOf_13 : decode cX1_columnOf 13 = .ok (.goto 4, 3) := by decide +kernel
theorem dX1_columnOf_16 : decode cX1_columnOf 16 = .ok (.iconst 0, 1) := by decide +kernel
theorem dX1_columnOf_17 : decode cX1_columnOf 17 = .ok (.ireturn, 1) := by decide +kernel
theorem dX1_hangPlace_0 : decode cX1_hangPlace 0 = .ok (.iload_n 0, 1) := by decide +kernel
theorem dX1_hangPlace_1 : decode cX1_hangPlace 1 = .ok (.bipush 6, 2) := by decide +kernel
theorem dX1_hangPlace_3 : decode cX1_hangPlace 3 = .ok (.imul, 1) := by decide +kernel
theorem dX1_hangPlace_4 : decode cX1_hangPlace 4 = .ok (.iload_n 1, 1) := by decide +kernel
theorem dX1_hangPlace_5 : decode cX1_hangPlace 5 = .ok (.iadd, 1) := by decide +kernel
theorem dX1_hangPlace_6 : decode cX1_hangPlace 6 = .ok (.iconst 4, 1) := by decide +kernel
theorem dX1_hangPlace_7 : decode cX1_hangPlace 7 = .ok (.imul, 1) := by decide +kernel
theorem dX1_hangPlace_8 : decode cX1_hangPlace 8 = .ok (.ireturn, 1) := by decide +kernel
theorem dX1_lightAt_0 : decode cX1_lightAt 0 = .ok (.aload_n 0, 1) := by decide +kernel
theorem dX1_lightAt_1 : decode cX1_lightAt 1 = .ok (.getfield 43, 3) := by decide +kernel
theorem dX1_lightAt_4 : decode cX1_lightAt 4 = .ok (.iconst 1, 1) := by decide +kernel
theorem dX1_lightAt_5 : decode cX1_lightAt 5 = .ok (.if_icmp .le 20, 3) := by decide +kernel
theorem dX1_lightAt_8 : decode cX1_lightAt 8 = .ok (.iload_n 1, 1) := by decide +kernel
theorem dX1_lightAt_9 : decode cX1_lightAt 9 = .ok (.iload_n 2, 1) := by decide +kernel
theorem dX1_lightAt_10 : decode cX1_lightAt 10 = .ok (.iload_n 1, 1) := by decide +kernel
theorem dX1_lightAt_11 : decode cX1_lightAt 11 = .ok (.isub, 1) := by decide +kernel
theorem dX1_lightAt_12 : decode cX1_lightAt 12 = .ok (.iload_n 3, 1) := by decide +kernel
theorem dX1_lightAt_13 : decode cX1_lightAt 13 = .ok (.imul, 1) := by decide +kernel
theorem dX1_lightAt_14 : decode cX1_lightAt 14 = .ok (.aload_n 0, 1) := by decide +kernel
theorem dX1_lightAt_15 : decode cX1_lightAt 15 = .ok (.getfield 43, 3) := by decide +kernel
theorem dX1_lightAt_18 : decode cX1_lightAt 18 = .ok (.iconst 1, 1) := by decide +kernel
theorem dX1_lightAt_19 : decode cX1_lightAt 19 = .ok (.isub, 1) := by decide +kernel
theorem dX1_lightAt_20 : decode cX1_lightAt 20 = .ok (.idiv, 1) := by decide +kernel
theorem dX1_lightAt_21 : decode cX1_lightAt 21 = .ok (.iadd, 1) := by decide +kernel
theorem dX1_lightAt_22 : decode cX1_lightAt 22 = .ok (.goto 4, 3) := by decide +kernel
theorem dX1_lightAt_25 : decode cX1_lightAt 25 = .ok (.iload_n 1, 1) := by decide +kernel
theorem dX1_lightAt_26 : decode cX1_lightAt 26 = .ok (.ireturn, 1) := by decide +kernel
theorem dX1_hoursOf_0 : decode cX1_hoursOf 0 = .ok (.iconst 0, 1) := by decide +kernel
theorem dX1_hoursOf_1 : decode cX1_hoursOf 1 = .ok (.istore 5, 2) := by decide +kernel
theorem dX1_hoursOf_3 : decode cX1_hoursOf 3 = .ok (.iconst 0, 1) := by decide +kernel
theorem dX1_hoursOf_4 : decode cX1_hoursOf 4 = .ok (.istore 6, 2) := by decide +kernel
theorem dX1_hoursOf_6 : decode cX1_hoursOf 6 = .ok (.iconst 0, 1) := by decide +kernel
theorem dX1_hoursOf_7 : decode cX1_hoursOf 7 = .ok (.istore 7, 2) := by decide +kernel
theorem dX1_hoursOf_9 : decode cX1_hoursOf 9 = .ok (.iload 7, 2) := by decide +kernel
theorem dX1_hoursOf_11 : decode cX1_hoursOf 11 = .ok (.aload_n 0, 1) := by decide +kernel
theorem dX1_hoursOf_12 : decode cX1_hoursOf 12 = .ok (.getfield 28, 3) := by decide +kernel
theorem dX1_hoursOf_15 : decode cX1_hoursOf 15 = .ok (.iload_n 1, 1) := by decide +kernel
theorem dX1_hoursOf_16 : decode cX1_hoursOf 16 = .ok (.iaload, 1) := by decide +kernel
theorem dX1_hoursOf_17 : decode cX1_hoursOf 17 = .ok (.if_icmp .ge 106, 3) := by decide +kernel
theorem dX1_hoursOf_20 : decode cX1_hoursOf 20 = .ok (.iload_n 1, 1) := by decide +kernel
theorem dX1_hoursOf_21 : decode cX1_hoursOf 21 = .ok (.iload 7, 2) := by decide +kernel
theorem dX1_hoursOf_23 : decode cX1_hoursOf 23 = .ok (.invokestatic 85, 3) := by decide +kernel
theorem dX1_hoursOf_26 : decode cX1_hoursOf 26 = .ok (.istore 8, 2) := by decide +kernel
theorem dX1_hoursOf_28 : decode cX1_hoursOf 28 = .ok (.iload 6, 2) := by decide +kernel
theorem dX1_hoursOf_30 : decode cX1_hoursOf 30 = .ok (.aload_n 0, 1) := by decide +kernel
theorem dX1_hoursOf_31 : decode cX1_hoursOf 31 = .ok (.getfield 31, 3) := by decide +kernel
theorem dX1_hoursOf_34 : decode cX1_hoursOf 34 = .ok (.iload 8, 2) := by decide +kernel
theorem dX1_hoursOf_36 : decode cX1_hoursOf 36 = .ok (.iaload, 1) := by decide +kernel
theorem dX1_hoursOf_37 : decode cX1_hoursOf 37 = .ok (.iadd, 1) := by decide +kernel
theorem dX1_hoursOf_38 : decode cX1_hoursOf 38 = .ok (.istore 9, 2) := by decide +kernel
theorem dX1_hoursOf_40 : decode cX1_hoursOf 40 = .ok (.iconst 0, 1) := by decide +kernel
theorem dX1_hoursOf_41 : decode cX1_hoursOf 41 = .ok (.iload 9, 2) := by decide +kernel
theorem dX1_hoursOf_43 : decode cX1_hoursOf 43 = .ok (.iload 6, 2) := by decide +kernel
theorem dX1_hoursOf_45 : decode cX1_hoursOf 45 = .ok (.iload_n 3, 1) := by decide +kernel
theorem dX1_hoursOf_46 : decode cX1_hoursOf 46 = .ok (.invokestatic 93, 3) := by decide +kernel
theorem dX1_hoursOf_49 : decode cX1_hoursOf 49 = .ok (.isub, 1) := by decide +kernel
theorem dX1_hoursOf_50 : decode cX1_hoursOf 50 = .ok (.invokestatic 93, 3) := by decide +kernel
theorem dX1_hoursOf_53 : decode cX1_hoursOf 53 = .ok (.istore 10, 2) := by decide +kernel
theorem dX1_hoursOf_55 : decode cX1_hoursOf 55 = .ok (.iload 10, 2) := by decide +kernel
theorem dX1_hoursOf_57 : decode cX1_hoursOf 57 = .ok (.aload_n 0, 1) := by decide +kernel
theorem dX1_hoursOf_58 : decode cX1_hoursOf 58 = .ok (.aload_n 0, 1) := by decide +kernel
theorem dX1_hoursOf_59 : decode cX1_hoursOf 59 = .ok (.getfield 31, 3) := by decide +kernel
theorem dX1_hoursOf_62 : decode cX1_hoursOf 62 = .ok (.iload 8, 2) := by decide +kernel
theorem dX1_hoursOf_64 : decode cX1_hoursOf 64 = .ok (.iconst 1, 1) := by decide +kernel
theorem dX1_hoursOf_65 : decode cX1_hoursOf 65 = .ok (.iadd, 1) := by decide +kernel
theorem dX1_hoursOf_66 : decode cX1_hoursOf 66 = .ok (.iaload, 1) := by decide +kernel
theorem dX1_hoursOf_67 : decode cX1_hoursOf 67 = .ok (.aload_n 0, 1) := by decide +kernel
theorem dX1_hoursOf_68 : decode cX1_hoursOf 68 = .ok (.getfield 31, 3) := by decide +kernel
theorem dX1_hoursOf_71 : decode cX1_hoursOf 71 = .ok (.iload 8, 2) := by decide +kernel
theorem dX1_hoursOf_73 : decode cX1_hoursOf 73 = .ok (.iconst 2, 1) := by decide +kernel
theorem dX1_hoursOf_74 : decode cX1_hoursOf 74 = .ok (.iadd, 1) := by decide +kernel
theorem dX1_hoursOf_75 : decode cX1_hoursOf 75 = .ok (.iaload, 1) := by decide +kernel
theorem dX1_hoursOf_76 : decode cX1_hoursOf 76 = .ok (.iload_n 2, 1) := by decide +kernel
theorem dX1_hoursOf_77 : decode cX1_hoursOf 77 = .ok (.invokevirtual 98, 3) := by decide +kernel
theorem dX1_hoursOf_80 : decode cX1_hoursOf 80 = .ok (.imul, 1) := by decide +kernel
theorem dX1_hoursOf_81 : decode cX1_hoursOf 81 = .ok (.istore 11, 2) := by decide +kernel
theorem dX1_hoursOf_83 : decode cX1_hoursOf 83 = .ok (.iload 5, 2) := by decide +kernel
theorem dX1_hoursOf_85 : decode cX1_hoursOf 85 = .ok (.iload 4, 2) := by decide +kernel
theorem dX1_hoursOf_87 : decode cX1_hoursOf 87 = .ok (.ifCond .ne 8, 3) := by decide +kernel
theorem dX1_hoursOf_90 : decode cX1_hoursOf 90 = .ok (.iload 11, 2) := by decide +kernel
theorem dX1_hoursOf_92 : decode cX1_hoursOf 92 = .ok (.goto 18, 3) := by decide +kernel
theorem dX1_hoursOf_95 : decode cX1_hoursOf 95 = .ok (.iload 11, 2) := by decide +kernel
theorem dX1_hoursOf_97 : decode cX1_hoursOf 97 = .ok (.aload_n 0, 1) := by decide +kernel
theorem dX1_hoursOf_98 : decode cX1_hoursOf 98 = .ok (.getfield 31, 3) := by decide +kernel
theorem dX1_hoursOf_101 : decode cX1_hoursOf 101 = .ok (.iload 8, 2) := by decide +kernel
theorem dX1_hoursOf_103 : decode cX1_hoursOf 103 = .ok (.iconst 3, 1) := by decide +kernel
theorem dX1_hoursOf_104 : decode cX1_hoursOf 104 = .ok (.iadd, 1) := by decide +kernel
theorem dX1_hoursOf_105 : decode cX1_hoursOf 105 = .ok (.iaload, 1) := by decide +kernel
theorem dX1_hoursOf_106 : decode cX1_hoursOf 106 = .ok (.imul, 1) := by decide +kernel
theorem dX1_hoursOf_107 : decode cX1_hoursOf 107 = .ok (.bipush 100, 2) := by decide +kernel
theorem dX1_hoursOf_109 : decode cX1_hoursOf 109 = .ok (.idiv, 1) := by decide +kernel
theorem dX1_hoursOf_110 : decode cX1_hoursOf 110 = .ok (.iadd, 1) := by decide +kernel
theorem dX1_hoursOf_111 : decode cX1_hoursOf 111 = .ok (.istore 5, 2) := by decide +kernel
theorem dX1_hoursOf_113 : decode cX1_hoursOf 113 = .ok (.iload 9, 2) := by decide +kernel
theorem dX1_hoursOf_115 : decode cX1_hoursOf 115 = .ok (.istore 6, 2) := by decide +kernel
theorem dX1_hoursOf_117 : decode cX1_hoursOf 117 = .ok (.iinc 7 1, 3) := by decide +kernel
theorem dX1_hoursOf_120 : decode cX1_hoursOf 120 = .ok (.goto (-111), 3) := by decide +kernel
theorem dX1_hoursOf_123 : decode cX1_hoursOf 123 = .ok (.iload 5, 2) := by decide +kernel
theorem dX1_hoursOf_125 : decode cX1_hoursOf 125 = .ok (.ireturn, 1) := by decide +kernel
theorem dX1_yearFrom_0 : decode cX1_yearFrom 0 = .ok (.iload_n 1, 1) := by decide +kernel
theorem dX1_yearFrom_1 : decode cX1_yearFrom 1 = .ok (.iconst 1, 1) := by decide +kernel
theorem dX1_yearFrom_2 : decode cX1_yearFrom 2 = .ok (.aload_n 0, 1) := by decide +kernel
theorem dX1_yearFrom_3 : decode cX1_yearFrom 3 = .ok (.getfield 65, 3) := by decide +kernel
theorem dX1_yearFrom_6 : decode cX1_yearFrom 6 = .ok (.invokestatic 81, 3) := by decide +kernel
theorem dX1_yearFrom_9 : decode cX1_yearFrom 9 = .ok (.ifCond .eq 14, 3) := by decide +kernel
theorem dX1_yearFrom_12 : decode cX1_yearFrom 12 = .ok (.aload_n 0, 1) := by decide +kernel
theorem dX1_yearFrom_13 : decode cX1_yearFrom 13 = .ok (.getfield 15, 3) := by decide +kernel
theorem dX1_yearFrom_16 : decode cX1_yearFrom 16 = .ok (.iload_n 1, 1) := by decide +kernel
theorem dX1_yearFrom_17 : decode cX1_yearFrom 17 = .ok (.iconst 1, 1) := by decide +kernel
theorem dX1_yearFrom_18 : decode cX1_yearFrom 18 = .ok (.isub, 1) := by decide +kernel
theorem dX1_yearFrom_19 : decode cX1_yearFrom 19 = .ok (.iaload, 1) := by decide +kernel
theorem dX1_yearFrom_20 : decode cX1_yearFrom 20 = .ok (.goto 4, 3) := by decide +kernel
theorem dX1_yearFrom_23 : decode cX1_yearFrom 23 = .ok (.iconst 0, 1) := by decide +kernel
theorem dX1_yearFrom_24 : decode cX1_yearFrom 24 = .ok (.ireturn, 1) := by decide +kernel
theorem dX3_addSight_0 : decode cX3_addSight 0 = .ok (.aload_n 0, 1) := by decide +kernel
theorem dX3_addSight_1 : decode cX3_addSight 1 = .ok (.getfield 84, 3) := by decide +kernel
theorem dX3_addSight_4 : decode cX3_addSight 4 = .ok (.bipush 22, 2) := by decide +kernel
theorem dX3_addSight_6 : decode cX3_addSight 6 = .ok (.if_icmp .ge 33, 3) := by decide +kernel
theorem dX3_addSight_9 : decode cX3_addSight 9 = .ok (.aload_n 0, 1) := by decide +kernel
theorem dX3_addSight_10 : decode cX3_addSight 10 = .ok (.getfield 25, 3) := by decide +kernel
theorem dX3_addSight_13 : decode cX3_addSight 13 = .ok (.aload_n 0, 1) := by decide +kernel
theorem dX3_addSight_14 : decode cX3_addSight 14 = .ok (.getfield 84, 3) := by decide +kernel
theorem dX3_addSight_17 : decode cX3_addSight 17 = .ok (.iload_n 1, 1) := by decide +kernel
theorem dX3_addSight_18 : decode cX3_addSight 18 = .ok (.iastore, 1) := by decide +kernel
theorem dX3_addSight_19 : decode cX3_addSight 19 = .ok (.aload_n 0, 1) := by decide +kernel
theorem dX3_addSight_20 : decode cX3_addSight 20 = .ok (.getfield 28, 3) := by decide +kernel
theorem dX3_addSight_23 : decode cX3_addSight 23 = .ok (.aload_n 0, 1) := by decide +kernel
theorem dX3_addSight_24 : decode cX3_addSight 24 = .ok (.getfield 84, 3) := by decide +kernel
theorem dX3_addSight_27 : decode cX3_addSight 27 = .ok (.iload_n 2, 1) := by decide +kernel
theorem dX3_addSight_28 : decode cX3_addSight 28 = .ok (.iastore, 1) := by decide +kernel
theorem dX3_addSight_29 : decode cX3_addSight 29 = .ok (.aload_n 0, 1) := by decide +kernel
theorem dX3_addSight_30 : decode cX3_addSight 30 = .ok (.dup, 1) := by decide +kernel
theorem dX3_addSight_31 : decode cX3_addSight 31 = .ok (.getfield 84, 3) := by decide +kernel
theorem dX3_addSight_34 : decode cX3_addSight 34 = .ok (.iconst 1, 1) := by decide +kernel
theorem dX3_addSight_35 : decode cX3_addSight 35 = .ok (.iadd, 1) := by decide +kernel
theorem dX3_addSight_36 : decode cX3_addSight 36 = .ok (.putfield 84, 3) := by decide +kernel
theorem dX3_addSight_39 : decode cX3_addSight 39 = .ok (.return_, 1) := by decide +kernel
theorem dX3_allow_0 : decode cX3_allow 0 = .ok (.aload_n 0, 1) := by decide +kernel
theorem dX3_allow_1 : decode cX3_allow 1 = .ok (.getfield 37, 3) := by decide +kernel
theorem dX3_allow_4 : decode cX3_allow 4 = .ok (.getfield 54, 3) := by decide +kernel
theorem dX3_allow_7 : decode cX3_allow 7 = .ok (.getfield 132, 3) := by decide +kernel
theorem dX3_allow_10 : decode cX3_allow 10 = .ok (.istore_n 3, 1) := by decide +kernel
theorem dX3_allow_11 : decode cX3_allow 11 = .ok (.aload_n 0, 1) := by decide +kernel
theorem dX3_allow_12 : decode cX3_allow 12 = .ok (.getfield 84, 3) := by decide +kernel
theorem dX3_allow_15 : decode cX3_allow 15 = .ok (.bipush 22, 2) := by decide +kernel
theorem dX3_allow_17 : decode cX3_allow 17 = .ok (.if_icmp .ge 51, 3) := by decide +kernel
theorem dX3_allow_20 : decode cX3_allow 20 = .ok (.aload_n 0, 1) := by decide +kernel
theorem dX3_allow_21 : decode cX3_allow 21 = .ok (.getfield 31, 3) := by decide +kernel
theorem dX3_allow_24 : decode cX3_allow 24 = .ok (.aload_n 0, 1) := by decide +kernel
theorem dX3_allow_25 : decode cX3_allow 25 = .ok (.getfield 84, 3) := by decide +kernel
theorem dX3_allow_28 : decode cX3_allow 28 = .ok (.iconst 3, 1) := by decide +kernel
theorem dX3_allow_29 : decode cX3_allow 29 = .ok (.imul, 1) := by decide +kernel
theorem dX3_allow_30 : decode cX3_allow 30 = .ok (.iload_n 1, 1) := by decide +kernel
theorem dX3_allow_31 : decode cX3_allow 31 = .ok (.iadd, 1) := by decide +kernel
theorem dX3_allow_32 : decode cX3_allow 32 = .ok (.bipush 99, 2) := by decide +kernel
theorem dX3_allow_34 : decode cX3_allow 34 = .ok (.iload_n 2, 1) := by decide +kernel
theorem dX3_allow_35 : decode cX3_allow 35 = .ok (.isub, 1) := by decide +kernel
theorem dX3_allow_36 : decode cX3_allow 36 = .ok (.iload_n 3, 1) := by decide +kernel
theorem dX3_allow_37 : decode cX3_allow 37 = .ok (.isub, 1) := by decide +kernel
theorem dX3_allow_38 : decode cX3_allow 38 = .ok (.iastore, 1) := by decide +kernel
theorem dX3_allow_39 : decode cX3_allow 39 = .ok (.aload_n 0, 1) := by decide +kernel
theorem dX3_allow_40 : decode cX3_allow 40 = .ok (.getfield 34, 3) := by decide +kernel
theorem dX3_allow_43 : decode cX3_allow 43 = .ok (.aload_n 0, 1) := by decide +kernel
theorem dX3_allow_44 : decode cX3_allow 44 = .ok (.getfield 84, 3) := by decide +kernel
theorem dX3_allow_47 : decode cX3_allow 47 = .ok (.iconst 3, 1) := by decide +kernel
theorem dX3_allow_48 : decode cX3_allow 48 = .ok (.imul, 1) := by decide +kernel
theorem dX3_allow_49 : decode cX3_allow 49 = .ok (.iload_n 1, 1) := by decide +kernel
theorem dX3_allow_50 : decode cX3_allow 50 = .ok (.iadd, 1) := by decide +kernel
theorem dX3_allow_51 : decode cX3_allow 51 = .ok (.iload_n 2, 1) := by decide +kernel
theorem dX3_allow_52 : decode cX3_allow 52 = .ok (.iload_n 3, 1) := by decide +kernel
theorem dX3_allow_53 : decode cX3_allow 53 = .ok (.if_icmp .le 12, 3) := by decide +kernel
theorem dX3_allow_56 : decode cX3_allow 56 = .ok (.bipush 99, 2) := by decide +kernel
theorem dX3_allow_58 : decode cX3_allow 58 = .ok (.iload_n 2, 1) := by decide +kernel
theorem dX3_allow_59 : decode cX3_allow 59 = .ok (.isub, 1) := by decide +kernel
theorem dX3_allow_60 : decode cX3_allow 60 = .ok (.iload_n 3, 1) := by decide +kernel
theorem dX3_allow_61 : decode cX3_allow 61 = .ok (.iadd, 1) := by decide +kernel
theorem dX3_allow_62 : decode cX3_allow 62 = .ok (.goto 5, 3) := by decide +kernel
theorem dX3_allow_65 : decode cX3_allow 65 = .ok (.ldc 135, 2) := by decide +kernel
theorem dX3_allow_67 : decode cX3_allow 67 = .ok (.iastore, 1) := by decide +kernel
theorem dX3_allow_68 : decode cX3_allow 68 = .ok (.return_, 1) := by decide +kernel
theorem dX8_lookShade_0 : decode cX8_lookShade 0 = .ok (.iload_n 1, 1) := by decide +kernel
theorem dX8_lookShade_1 : decode cX8_lookShade 1 = .ok (.ifCond .lt 27, 3) := by decide +kernel
theorem dX8_lookShade_4 : decode cX8_lookShade 4 = .ok (.iload_n 1, 1) := by decide +kernel
theorem dX8_lookShade_5 : decode cX8_lookShade 5 = .ok (.aload_n 0, 1) := by decide +kernel
theorem dX8_lookShade_6 : decode cX8_lookShade 6 = .ok (.getfield 21, 3) := by decide +kernel
theorem dX8_lookShade_9 : decode cX8_lookShade 9 = .ok (.if_icmp .ge 19, 3) := by decide +kernel
theorem dX8_lookShade_12 : decode cX8_lookShade 12 = .ok (.aload_n 0, 1) := by decide +kernel
theorem dX8_lookShade_13 : decode cX8_lookShade 13 = .ok (.getfield 11, 3) := by decide +kernel
theorem dX8_lookShade_16 : decode cX8_lookShade 16 = .ok (.iload_n 1, 1) := by decide +kernel
theorem dX8_lookShade_17 : decode cX8_lookShade 17 = .ok (.bipush 6, 2) := by decide +kernel
theorem dX8_lookShade_19 : decode cX8_lookShade 19 = .ok (.imul, 1) := by decide +kernel
theorem dX8_lookShade_20 : decode cX8_lookShade 20 = .ok (.iconst 3, 1) := by decide +kernel
theorem dX8_lookShade_21 : decode cX8_lookShade 21 = .ok (.iadd, 1) := by decide +kernel
theorem dX8_lookShade_22 : decode cX8_lookShade 22 = .ok (.iload_n 2, 1) := by decide +kernel
theorem dX8_lookShade_23 : decode cX8_lookShade 23 = .ok (.iadd, 1) := by decide +kernel
theorem dX8_lookShade_24 : decode cX8_lookShade 24 = .ok (.iaload, 1) := by decide +kernel
theorem dX8_lookShade_25 : decode cX8_lookShade 25 = .ok (.goto 4, 3) := by decide +kernel
theorem dX8_lookShade_28 : decode cX8_lookShade 28 = .ok (.iconst (-1), 1) := by decide +kernel
theorem dX8_lookShade_29 : decode cX8_lookShade 29 = .ok (.ireturn, 1) := by decide +kernel
theorem dX8_isSeen_0 : decode cX8_isSeen 0 = .ok (.aload_n 0, 1) := by decide +kernel
theorem dX8_isSeen_1 : decode cX8_isSeen 1 = .ok (.iload_n 1, 1) := by decide +kernel
theorem dX8_isSeen_2 : decode cX8_isSeen 2 = .ok (.iconst 0, 1) := by decide +kernel
theorem dX8_isSeen_3 : decode cX8_isSeen 3 = .ok (.invokevirtual 47, 3) := by decide +kernel
theorem dX8_isSeen_6 : decode cX8_isSeen 6 = .ok (.ifCond .lt 7, 3) := by decide +kernel
theorem dX8_isSeen_9 : decode cX8_isSeen 9 = .ok (.iconst 1, 1) := by decide +kernel
theorem dX8_isSeen_10 : decode cX8_isSeen 10 = .ok (.goto 4, 3) := by decide +kernel
theorem dX8_isSeen_13 : decode cX8_isSeen 13 = .ok (.iconst 0, 1) := by decide +kernel
theorem dX8_isSeen_14 : decode cX8_isSeen 14 = .ok (.ireturn, 1) := by decide +kernel
theorem dX8_isTriedOf_0 : decode cX8_isTriedOf 0 = .ok (.aload_n 0, 1) := by decide +kernel
theorem dX8_isTriedOf_1 : decode cX8_isTriedOf 1 = .ok (.getfield 15, 3) := by decide +kernel
theorem dX8_isTriedOf_4 : decode cX8_isTriedOf 4 = .ok (.iload_n 1, 1) := by decide +kernel
theorem dX8_isTriedOf_5 : decode cX8_isTriedOf 5 = .ok (.bipush 6, 2) := by decide +kernel
theorem dX8_isTriedOf_7 : decode cX8_isTriedOf 7 = .ok (.imul, 1) := by decide +kernel
theorem dX8_isTriedOf_8 : decode cX8_isTriedOf 8 = .ok (.iaload, 1) := by decide +kernel
theorem dX8_isTriedOf_9 : decode cX8_isTriedOf 9 = .ok (.iload_n 3, 1) := by decide +kernel
theorem dX8_isTriedOf_10 : decode cX8_isTriedOf 10 = .ok (.if_icmp .gt 22, 3) := by decide +kernel
theorem dX8_isTriedOf_13 : decode cX8_isTriedOf 13 = .ok (.aload_n 0, 1) := by decide +kernel
theorem dX8_isTriedOf_14 : decode cX8_isTriedOf 14 = .ok (.getfield 15, 3) := by decide +kernel
theorem dX8_isTriedOf_17 : decode cX8_isTriedOf 17 = .ok (.iload_n 1, 1) := by decide +kernel
theorem dX8_isTriedOf_18 : decode cX8_isTriedOf 18 = .ok (.bipush 6, 2) := by decide +kernel
theorem dX8_isTriedOf_20 : decode cX8_isTriedOf 20 = .ok (.imul, 1) := by decide +kernel
theorem dX8_isTriedOf_21 : decode cX8_isTriedOf 21 = .ok (.iconst 1, 1) := by decide +kernel
theorem dX8_isTriedOf_22 : decode cX8_isTriedOf 22 = .ok (.iadd, 1) := by decide +kernel
theorem dX8_isTriedOf_23 : decode cX8_isTriedOf 23 = .ok (.iaload, 1) := by decide +kernel
theorem dX8_isTriedOf_24 : decode cX8_isTriedOf 24 = .ok (.iload_n 2, 1) := by decide +kernel
theorem dX8_isTriedOf_25 : decode cX8_isTriedOf 25 = .ok (.if_icmp .ne 7, 3) := by decide +kernel
theorem dX8_isTriedOf_28 : decode cX8_isTriedOf 28 = .ok (.iconst 1, 1) := by decide +kernel
theorem dX8_isTriedOf_29 : decode cX8_isTriedOf 29 = .ok (.goto 4, 3) := by decide +kernel
theorem dX8_isTriedOf_32 : decode cX8_isTriedOf 32 = .ok (.iconst 0, 1) := by decide +kernel
theorem dX8_isTriedOf_33 : decode cX8_isTriedOf 33 = .ok (.ireturn, 1) := by decide +kernel
theorem dX8_latestLook_0 : decode cX8_latestLook 0 = .ok (.aload_n 0, 1) := by decide +kernel
theorem dX8_latestLook_1 : decode cX8_latestLook 1 = .ok (.getfield 21, 3) := by decide +kernel
theorem dX8_latestLook_4 : decode cX8_latestLook 4 = .ok (.iconst 1, 1) := by decide +kernel
theorem dX8_latestLook_5 : decode cX8_latestLook 5 = .ok (.isub, 1) := by decide +kernel
theorem dX8_latestLook_6 : decode cX8_latestLook 6 = .ok (.istore 4, 2) := by decide +kernel
theorem dX8_latestLook_8 : decode cX8_latestLook 8 = .ok (.iload 4, 2) := by decide +kernel
theorem dX8_latestLook_10 : decode cX8_latestLook 10 = .ok (.ifCond .lt 56, 3) := by decide +kernel
theorem dX8_latestLook_13 : decode cX8_latestLook 13 = .ok (.iload 4, 2) := by decide +kernel
theorem dX8_latestLook_15 : decode cX8_latestLook 15 = .ok (.bipush 6, 2) := by decide +kernel
theorem dX8_latestLook_17 : decode cX8_latestLook 17 = .ok (.imul, 1) := by decide +kernel
theorem dX8_latestLook_18 : decode cX8_latestLook 18 = .ok (.istore 5, 2) := by decide +kernel
theorem dX8_latestLook_20 : decode cX8_latestLook 20 = .ok (.aload_n 0, 1) := by decide +kernel
theorem dX8_latestLook_21 : decode cX8_latestLook 21 = .ok (.getfield 11, 3) := by decide +kernel
theorem dX8_latestLook_24 : decode cX8_latestLook 24 = .ok (.iload 5, 2) := by decide +kernel
theorem dX8_latestLook_26 : decode cX8_latestLook 26 = .ok (.iaload, 1) := by decide +kernel
theorem dX8_latestLook_27 : decode cX8_latestLook 27 = .ok (.iload_n 3, 1) := by decide +kernel
theorem dX8_latestLook_28 : decode cX8_latestLook 28 = .ok (.if_icmp .gt 32, 3) := by decide +kernel
theorem dX8_latestLook_31 : decode cX8_latestLook 31 = .ok (.aload_n 0, 1) := by decide +kernel
theorem dX8_latestLook_32 : decode cX8_latestLook 32 = .ok (.getfield 11, 3) := by decide +kernel
theorem dX8_latestLook_35 : decode cX8_latestLook 35 = .ok (.iload 5, 2) := by decide +kernel
theorem dX8_latestLook_37 : decode cX8_latestLook 37 = .ok (.iconst 1, 1) := by decide +kernel
theorem dX8_latestLook_38 : decode cX8_latestLook 38 = .ok (.iadd, 1) := by decide +kernel
theorem dX8_latestLook_39 : decode cX8_latestLook 39 = .ok (.iaload, 1) := by decide +kernel
theorem dX8_latestLook_40 : decode cX8_latestLook 40 = .ok (.iload_n 1, 1) := by decide +kernel
theorem dX8_latestLook_41 : decode cX8_latestLook 41 = .ok (.if_icmp .ne 19, 3) := by decide +kernel
theorem dX8_latestLook_44 : decode cX8_latestLook 44 = .ok (.aload_n 0, 1) := by decide +kernel
theorem dX8_latestLook_45 : decode cX8_latestLook 45 = .ok (.getfield 11, 3) := by decide +kernel
theorem dX8_latestLook_48 : decode cX8_latestLook 48 = .ok (.iload 5, 2) := by decide +kernel
theorem dX8_latestLook_50 : decode cX8_latestLook 50 = .ok (.iconst 2, 1) := by decide +kernel
theorem dX8_latestLook_51 : decode cX8_latestLook 51 = .ok (.iadd, 1) := by decide +kernel
theorem dX8_latestLook_52 : decode cX8_latestLook 52 = .ok (.iaload, 1) := by decide +kernel
theorem dX8_latestLook_53 : decode cX8_latestLook 53 = .ok (.iload_n 2, 1) := by decide +kernel
theorem dX8_latestLook_54 : decode cX8_latestLook 54 = .ok (.if_icmp .ne 6, 3) := by decide +kernel
theorem dX8_latestLook_57 : decode cX8_latestLook 57 = .ok (.iload 4, 2) := by decide +kernel
theorem dX8_latestLook_59 : decode cX8_latestLook 59 = .ok (.ireturn, 1) := by decide +kernel
theorem dX8_latestLook_60 : decode cX8_latestLook 60 = .ok (.iinc 4 (-1), 3) := by decide +kernel
theorem dX8_latestLook_63 : decode cX8_latestLook 63 = .ok (.goto (-55), 3) := by decide +kernel
theorem dX8_latestLook_66 : decode cX8_latestLook 66 = .ok (.iconst (-1), 1) := by decide +kernel
theorem dX8_latestLook_67 : decode cX8_latestLook 67 = .ok (.ireturn, 1) := by decide +kernel
theorem dX8_triedHours_0 : decode cX8_triedHours 0 = .ok (.aload_n 0, 1) := by decide +kernel
theorem dX8_triedHours_1 : decode cX8_triedHours 1 = .ok (.getfield 15, 3) := by decide +kernel
theorem dX8_triedHours_4 : decode cX8_triedHours 4 = .ok (.iload_n 1, 1) := by decide +kernel
theorem dX8_triedHours_5 : decode cX8_triedHours 5 = .ok (.bipush 6, 2) := by decide +kernel
theorem dX8_triedHours_7 : decode cX8_triedHours 7 = .ok (.imul, 1) := by decide +kernel
theorem dX8_triedHours_8 : decode cX8_triedHours 8 = .ok (.iconst 2, 1) := by decide +kernel
theorem dX8_triedHours_9 : decode cX8_triedHours 9 = .ok (.iadd, 1) := by decide +kernel
theorem dX8_triedHours_10 : decode cX8_triedHours 10 = .ok (.iaload, 1) := by decide +kernel
theorem dX8_triedHours_11 : decode cX8_triedHours 11 = .ok (.ireturn, 1) := by decide +kernel
theorem dX8_latestRight_0 : decode cX8_latestRight 0 = .ok (.aload_n 0, 1) := by decide +kernel
theorem dX8_latestRight_1 : decode cX8_latestRight 1 = .ok (.getfield 28, 3) := by decide +kernel
theorem dX8_latestRight_4 : decode cX8_latestRight 4 = .ok (.iconst 1, 1) := by decide +kernel
theorem dX8_latestRight_5 : decode cX8_latestRight 5 = .ok (.isub, 1) := by decide +kernel
theorem dX8_latestRight_6 : decode cX8_latestRight 6 = .ok (.istore_n 3, 1) := by decide +kernel
theorem dX8_latestRight_7 : decode cX8_latestRight 7 = .ok (.iload_n 3, 1) := by decide +kernel
theorem dX8_latestRight_8 : decode cX8_latestRight 8 = .ok (.ifCond .lt 39, 3) := by decide +kernel
theorem dX8_latestRight_11 : decode cX8_latestRight 11 = .ok (.aload_n 0, 1) := by decide +kernel
theorem dX8_latestRight_12 : decode cX8_latestRight 12 = .ok (.getfield 18, 3) := by decide +kernel
theorem dX8_latestRight_15 : decode cX8_latestRight 15 = .ok (.iload_n 3, 1) := by decide +kernel
theorem dX8_latestRight_16 : decode cX8_latestRight 16 = .ok (.bipush 6, 2) := by decide +kernel
theorem dX8_latestRight_18 : decode cX8_latestRight 18 = .ok (.imul, 1) := by decide +kernel
theorem dX8_latestRight_19 : decode cX8_latestRight 19 = .ok (.iaload, 1) := by decide +kernel
theorem dX8_latestRight_20 : decode cX8_latestRight 20 = .ok (.iload_n 2, 1) := by decide +kernel
theorem dX8_latestRight_21 : decode cX8_latestRight 21 = .ok (.if_icmp .gt 20, 3) := by decide +kernel
theorem dX8_latestRight_24 : decode cX8_latestRight 24 = .ok (.aload_n 0, 1) := by decide +kernel
theorem dX8_latestRight_25 : decode cX8_latestRight 25 = .ok (.getfield 18, 3) := by decide +kernel
theorem dX8_latestRight_28 : decode cX8_latestRight 28 = .ok (.iload_n 3, 1) := by decide +kernel
theorem dX8_latestRight_29 : decode cX8_latestRight 29 = .ok (.bipush 6, 2) := by decide +kernel
theorem dX8_latestRight_31 : decode cX8_latestRight 31 = .ok (.imul, 1) := by decide +kernel
theorem dX8_latestRight_32 : decode cX8_latestRight 32 = .ok (.iconst 1, 1) := by decide +kernel
theorem dX8_latestRight_33 : decode cX8_latestRight 33 = .ok (.iadd, 1) := by decide +kernel
theorem dX8_latestRight_34 : decode cX8_latestRight 34 = .ok (.iaload, 1) := by decide +kernel
theorem dX8_latestRight_35 : decode cX8_latestRight 35 = .ok (.iload_n 1, 1) := by decide +kernel
theorem dX8_latestRight_36 : decode cX8_latestRight 36 = .ok (.if_icmp .ne 5, 3) := by decide +kernel
theorem dX8_latestRight_39 : decode cX8_latestRight 39 = .ok (.iload_n 3, 1) := by decide +kernel
theorem dX8_latestRight_40 : decode cX8_latestRight 40 = .ok (.ireturn, 1) := by decide +kernel
theorem dX8_latestRight_41 : decode cX8_latestRight 41 = .ok (.iinc 3 (-1), 3) := by decide +kernel
theorem dX8_latestRight_44 : decode cX8_latestRight 44 = .ok (.goto (-37), 3) := by decide +kernel
theorem dX8_latestRight_47 : decode cX8_latestRight 47 = .ok (.iconst (-1), 1) := by decide +kernel
theorem dX8_latestRight_48 : decode cX8_latestRight 48 = .ok (.ireturn, 1) := by decide +kernel
theorem dX8_triedShade_0 : decode cX8_triedShade 0 = .ok (.aload_n 0, 1) := by decide +kernel
theorem dX8_triedShade_1 : decode cX8_triedShade 1 = .ok (.iload_n 1, 1) := by decide +kernel
theorem dX8_triedShade_2 : decode cX8_triedShade 2 = .ok (.iload_n 2, 1) := by decide +kernel
theorem dX8_triedShade_3 : decode cX8_triedShade 3 = .ok (.invokevirtual 51, 3) := by decide +kernel
theorem dX8_triedShade_6 : decode cX8_triedShade 6 = .ok (.istore 4, 2) := by decide +kernel
theorem dX8_triedShade_8 : decode cX8_triedShade 8 = .ok (.iload 4, 2) := by decide +kernel
theorem dX8_triedShade_10 : decode cX8_triedShade 10 = .ok (.iconst (-1), 1) := by decide +kernel
theorem dX8_triedShade_11 : decode cX8_triedShade 11 = .ok (.if_icmp .ne 19, 3) := by decide +kernel
theorem dX8_triedShade_14 : decode cX8_triedShade 14 = .ok (.aload_n 0, 1) := by decide +kernel
theorem dX8_triedShade_15 : decode cX8_triedShade 15 = .ok (.getfield 15, 3) := by decide +kernel
theorem dX8_triedShade_18 : decode cX8_triedShade 18 = .ok (.iload_n 1, 1) := by decide +kernel
theorem dX8_triedShade_19 : decode cX8_triedShade 19 = .ok (.bipush 6, 2) := by decide +kernel
theorem dX8_triedShade_21 : decode cX8_triedShade 21 = .ok (.imul, 1) := by decide +kernel
theorem dX8_triedShade_22 : decode cX8_triedShade 22 = .ok (.iconst 3, 1) := by decide +kernel
theorem dX8_triedShade_23 : decode cX8_triedShade 23 = .ok (.iadd, 1) := by decide +kernel
theorem dX8_triedShade_24 : decode cX8_triedShade 24 = .ok (.iload_n 3, 1) := by decide +kernel
theorem dX8_triedShade_25 : decode cX8_triedShade 25 = .ok (.iadd, 1) := by decide +kernel
theorem dX8_triedShade_26 : decode cX8_triedShade 26 = .ok (.iaload, 1) := by decide +kernel
theorem dX8_triedShade_27 : decode cX8_triedShade 27 = .ok (.goto 17, 3) := by decide +kernel
theorem dX8_triedShade_30 : decode cX8_triedShade 30 = .ok (.aload_n 0, 1) := by decide +kernel
theorem dX8_triedShade_31 : decode cX8_triedShade 31 = .ok (.getfield 18, 3) := by decide +kernel
theorem dX8_triedShade_34 : decode cX8_triedShade 34 = .ok (.iload 4, 2) := by decide +kernel
theorem dX8_triedShade_36 : decode cX8_triedShade 36 = .ok (.bipush 6, 2) := by decide +kernel
theorem dX8_triedShade_38 : decode cX8_triedShade 38 = .ok (.imul, 1) := by decide +kernel
theorem dX8_triedShade_39 : decode cX8_triedShade 39 = .ok (.iconst 3, 1) := by decide +kernel
theorem dX8_triedShade_40 : decode cX8_triedShade 40 = .ok (.iadd, 1) := by decide +kernel
theorem dX8_triedShade_41 : decode cX8_triedShade 41 = .ok (.iload_n 3, 1) := by decide +kernel
theorem dX8_triedShade_42 : decode cX8_triedShade 42 = .ok (.iadd, 1) := by decide +kernel
theorem dX8_triedShade_43 : decode cX8_triedShade 43 = .ok (.iaload, 1) := by decide +kernel
theorem dX8_triedShade_44 : decode cX8_triedShade 44 = .ok (.ireturn, 1) := by decide +kernel
theorem dX3_gather_0 : decode cX3_gather 0 = .ok (.aload_n 0, 1) := by decide +kernel
theorem dX3_gather_1 : decode cX3_gather 1 = .ok (.iconst 0, 1) := by decide +kernel
theorem dX3_gather_2 : decode cX3_gather 2 = .ok (.putfield 84, 3) := by decide +kernel
theorem dX3_gather_5 : decode cX3_gather 5 = .ok (.iconst 0, 1) := by decide +kernel
theorem dX3_gather_6 : decode cX3_gather 6 = .ok (.istore_n 3, 1) := by decide +kernel
theorem dX3_gather_7 : decode cX3_gather 7 = .ok (.iload_n 3, 1) := by decide +kernel
theorem dX3_gather_8 : decode cX3_gather 8 = .ok (.iconst 2, 1) := by decide +kernel
theorem dX3_gather_9 : decode cX3_gather 9 = .ok (.if_icmp .ge 71, 3) := by decide +kernel
theorem dX3_gather_12 : decode cX3_gather 12 = .ok (.aload_n 0, 1) := by decide +kernel
theorem dX3_gather_13 : decode cX3_gather 13 = .ok (.getfield 41, 3) := by decide +kernel
theorem dX3_gather_16 : decode cX3_gather 16 = .ok (.iload_n 1, 1) := by decide +kernel
theorem dX3_gather_17 : decode cX3_gather 17 = .ok (.iload_n 3, 1) := by decide +kernel
theorem dX3_gather_18 : decode cX3_gather 18 = .ok (.iload_n 2, 1) := by decide +kernel
theorem dX3_gather_19 : decode cX3_gather 19 = .ok (.invokevirtual 101, 3) := by decide +kernel
theorem dX3_gather_22 : decode cX3_gather 22 = .ok (.istore 4, 2) := by decide +kernel
theorem dX3_gather_24 : decode cX3_gather 24 = .ok (.aload_n 0, 1) := by decide +kernel
theorem dX3_gather_25 : decode cX3_gather 25 = .ok (.getfield 41, 3) := by decide +kernel
theorem dX3_gather_28 : decode cX3_gather 28 = .ok (.iload 4, 2) := by decide +kernel
theorem dX3_gather_30 : decode cX3_gather 30 = .ok (.invokevirtual 105, 3) := by decide +kernel
theorem dX3_gather_33 : decode cX3_gather 33 = .ok (.ifCond .eq 41, 3) := by decide +kernel
theorem dX3_gather_36 : decode cX3_gather 36 = .ok (.iconst 0, 1) := by decide +kernel
theorem dX3_gather_37 : decode cX3_gather 37 = .ok (.istore 5, 2) := by decide +kernel
theorem dX3_gather_39 : decode cX3_gather 39 = .ok (.iload 5, 2) := by decide +kernel
theorem dX3_gather_41 : decode cX3_gather 41 = .ok (.iconst 3, 1) := by decide +kernel
theorem dX3_gather_42 : decode cX3_gather 42 = .ok (.if_icmp .ge 26, 3) := by decide +kernel
theorem dX3_gather_45 : decode cX3_gather 45 = .ok (.aload_n 0, 1) := by decide +kernel
theorem dX3_gather_46 : decode cX3_gather 46 = .ok (.iload 5, 2) := by decide +kernel
theorem dX3_gather_48 : decode cX3_gather 48 = .ok (.aload_n 0, 1) := by decide +kernel
theorem dX3_gather_49 : decode cX3_gather 49 = .ok (.getfield 41, 3) := by decide +kernel
theorem dX3_gather_52 : decode cX3_gather 52 = .ok (.iload 4, 2) := by decide +kernel
theorem dX3_gather_54 : decode cX3_gather 54 = .ok (.iload 5, 2) := by decide +kernel
theorem dX3_gather_56 : decode cX3_gather 56 = .ok (.invokevirtual 109, 3) := by decide +kernel
theorem dX3_gather_59 : decode cX3_gather 59 = .ok (.invokevirtual 113, 3) := by decide +kernel
theorem dX3_gather_62 : decode cX3_gather 62 = .ok (.iinc 5 1, 3) := by decide +kernel
theorem dX3_gather_65 : decode cX3_gather 65 = .ok (.goto (-26), 3) := by decide +kernel
theorem dX3_gather_68 : decode cX3_gather 68 = .ok (.aload_n 0, 1) := by decide +kernel
theorem dX3_gather_69 : decode cX3_gather 69 = .ok (.iload_n 3, 1) := by decide +kernel
theorem dX3_gather_70 : decode cX3_gather 70 = .ok (.iconst 0, 1) := by decide +kernel
theorem dX3_gather_71 : decode cX3_gather 71 = .ok (.invokevirtual 116, 3) := by decide +kernel
theorem dX3_gather_74 : decode cX3_gather 74 = .ok (.iinc 3 1, 3) := by decide +kernel
theorem dX3_gather_77 : decode cX3_gather 77 = .ok (.goto (-70), 3) := by decide +kernel
theorem dX3_gather_80 : decode cX3_gather 80 = .ok (.iconst 0, 1) := by decide +kernel
theorem dX3_gather_81 : decode cX3_gather 81 = .ok (.istore_n 3, 1) := by decide +kernel
theorem dX3_gather_82 : decode cX3_gather 82 = .ok (.iload_n 3, 1) := by decide +kernel
theorem dX3_gather_83 : decode cX3_gather 83 = .ok (.aload_n 0, 1) := by decide +kernel
theorem dX3_gather_84 : decode cX3_gather 84 = .ok (.getfield 41, 3) := by decide +kernel
theorem dX3_gather_87 : decode cX3_gather 87 = .ok (.getfield 119, 3) := by decide +kernel
theorem dX3_gather_90 : decode cX3_gather 90 = .ok (.if_icmp .ge 67, 3) := by decide +kernel
theorem dX3_gather_93 : decode cX3_gather 93 = .ok (.aload_n 0, 1) := by decide +kernel
theorem dX3_gather_94 : decode cX3_gather 94 = .ok (.getfield 41, 3) := by decide +kernel
theorem dX3_gather_97 : decode cX3_gather 97 = .ok (.iload_n 3, 1) := by decide +kernel
theorem dX3_gather_98 : decode cX3_gather 98 = .ok (.iload_n 1, 1) := by decide +kernel
theorem dX3_gather_99 : decode cX3_gather 99 = .ok (.iload_n 2, 1) := by decide +kernel
theorem dX3_gather_100 : decode cX3_gather 100 = .ok (.invokevirtual 122, 3) := by decide +kernel
theorem dX3_gather_103 : decode cX3_gather 103 = .ok (.ifCond .eq 48, 3) := by decide +kernel
theorem dX3_gather_106 : decode cX3_gather 106 = .ok (.iconst 0, 1) := by decide +kernel
theorem dX3_gather_107 : decode cX3_gather 107 = .ok (.istore 4, 2) := by decide +kernel
theorem dX3_gather_109 : decode cX3_gather 109 = .ok (.iload 4, 2) := by decide +kernel
theorem dX3_gather_111 : decode cX3_gather 111 = .ok (.iconst 3, 1) := by decide +kernel
theorem dX3_gather_112 : decode cX3_gather 112 = .ok (.if_icmp .ge 26, 3) := by decide +kernel
theorem dX3_gather_115 : decode cX3_gather 115 = .ok (.aload_n 0, 1) := by decide +kernel
theorem dX3_gather_116 : decode cX3_gather 116 = .ok (.iload 4, 2) := by decide +kernel
theorem dX3_gather_118 : decode cX3_gather 118 = .ok (.aload_n 0, 1) := by decide +kernel
theorem dX3_gather_119 : decode cX3_gather 119 = .ok (.getfield 41, 3) := by decide +kernel
theorem dX3_gather_122 : decode cX3_gather 122 = .ok (.iload_n 3, 1) := by decide +kernel
theorem dX3_gather_123 : decode cX3_gather 123 = .ok (.iload_n 2, 1) := by decide +kernel
theorem dX3_gather_124 : decode cX3_gather 124 = .ok (.iload 4, 2) := by decide +kernel
theorem dX3_gather_126 : decode cX3_gather 126 = .ok (.invokevirtual 126, 3) := by decide +kernel
theorem dX3_gather_129 : decode cX3_gather 129 = .ok (.invokevirtual 113, 3) := by decide +kernel
theorem dX3_gather_132 : decode cX3_gather 132 = .ok (.iinc 4 1, 3) := by decide +kernel
theorem dX3_gather_135 : decode cX3_gather 135 = .ok (.goto (-26), 3) := by decide +kernel
theorem dX3_gather_138 : decode cX3_gather 138 = .ok (.aload_n 0, 1) := by decide +kernel
theorem dX3_gather_139 : decode cX3_gather 139 = .ok (.iconst 0, 1) := by decide +kernel
theorem dX3_gather_140 : decode cX3_gather 140 = .ok (.aload_n 0, 1) := by decide +kernel
theorem dX3_gather_141 : decode cX3_gather 141 = .ok (.getfield 41, 3) := by decide +kernel
theorem dX3_gather_144 : decode cX3_gather 144 = .ok (.iload_n 3, 1) := by decide +kernel
theorem dX3_gather_145 : decode cX3_gather 145 = .ok (.invokevirtual 129, 3) := by decide +kernel
theorem dX3_gather_148 : decode cX3_gather 148 = .ok (.invokevirtual 116, 3) := by decide +kernel
theorem dX3_gather_151 : decode cX3_gather 151 = .ok (.iinc 3 1, 3) := by decide +kernel
theorem dX3_gather_154 : decode cX3_gather 154 = .ok (.goto (-72), 3) := by decide +kernel
theorem dX3_gather_157 : decode cX3_gather 157 = .ok (.return_, 1) := by decide +kernel
theorem dX5_keepsWithin_0 : decode cX5_keepsWithin 0 = .ok (.aload_n 0, 1) := by decide +kernel
theorem dX5_keepsWithin_1 : decode cX5_keepsWithin 1 = .ok (.getfield 15, 3) := by decide +kernel
theorem dX5_keepsWithin_4 : decode cX5_keepsWithin 4 = .ok (.getfield 39, 3) := by decide +kernel
theorem dX5_keepsWithin_7 : decode cX5_keepsWithin 7 = .ok (.iload_n 1, 1) := by decide +kernel
theorem dX5_keepsWithin_8 : decode cX5_keepsWithin 8 = .ok (.iaload, 1) := by decide +kernel
theorem dX5_keepsWithin_9 : decode cX5_keepsWithin 9 = .ok (.iconst 3, 1) := by decide +kernel
theorem dX5_keepsWithin_10 : decode cX5_keepsWithin 10 = .ok (.imul, 1) := by decide +kernel
theorem dX5_keepsWithin_11 : decode cX5_keepsWithin 11 = .ok (.istore 5, 2) := by decide +kernel
theorem dX5_keepsWithin_13 : decode cX5_keepsWithin 13 = .ok (.aload_n 0, 1) := by decide +kernel
theorem dX5_keepsWithin_14 : decode cX5_keepsWithin 14 = .ok (.getfield 15, 3) := by decide +kernel
theorem dX5_keepsWithin_17 : decode cX5_keepsWithin 17 = .ok (.getfield 42, 3) := by decide +kernel
theorem dX5_keepsWithin_20 : decode cX5_keepsWithin 20 = .ok (.iload_n 1, 1) := by decide +kernel
theorem dX5_keepsWithin_21 : decode cX5_keepsWithin 21 = .ok (.iaload, 1) := by decide +kernel
theorem dX5_keepsWithin_22 : decode cX5_keepsWithin 22 = .ok (.iconst 3, 1) := by decide +kernel
theorem dX5_keepsWithin_23 : decode cX5_keepsWithin 23 = .ok (.imul, 1) := by decide +kernel
theorem dX5_keepsWithin_24 : decode cX5_keepsWithin 24 = .ok (.istore 6, 2) := by decide +kernel
theorem dX5_keepsWithin_26 : decode cX5_keepsWithin 26 = .ok (.iconst 0, 1) := by decide +kernel
theorem dX5_keepsWithin_27 : decode cX5_keepsWithin 27 = .ok (.istore 7, 2) := by decide +kernel
theorem dX5_keepsWithin_29 : decode cX5_keepsWithin 29 = .ok (.iload 7, 2) := by decide +kernel
theorem dX5_keepsWithin_31 : decode cX5_keepsWithin 31 = .ok (.iconst 3, 1) := by decide +kernel
theorem dX5_keepsWithin_32 : decode cX5_keepsWithin 32 = .ok (.if_icmp .ge 58, 3) := by decide +kernel
theorem dX5_keepsWithin_35 : decode cX5_keepsWithin 35 = .ok (.aload_n 0, 1) := by decide +kernel
theorem dX5_keepsWithin_36 : decode cX5_keepsWithin 36 = .ok (.getfield 9, 3) := by decide +kernel
theorem dX5_keepsWithin_39 : decode cX5_keepsWithin 39 = .ok (.iload 5, 2) := by decide +kernel
theorem dX5_keepsWithin_41 : decode cX5_keepsWithin 41 = .ok (.iload 7, 2) := by decide +kernel
theorem dX5_keepsWithin_43 : decode cX5_keepsWithin 43 = .ok (.iadd, 1) := by decide +kernel
theorem dX5_keepsWithin_44 : decode cX5_keepsWithin 44 = .ok (.iaload, 1) := by decide +kernel
theorem dX5_keepsWithin_45 : decode cX5_keepsWithin 45 = .ok (.aload_n 0, 1) := by decide +kernel
theorem dX5_keepsWithin_46 : decode cX5_keepsWithin 46 = .ok (.getfield 9, 3) := by decide +kernel
theorem dX5_keepsWithin_49 : decode cX5_keepsWithin 49 = .ok (.iload 6, 2) := by decide +kernel
theorem dX5_keepsWithin_51 : decode cX5_keepsWithin 51 = .ok (.iload 7, 2) := by decide +kernel
theorem dX5_keepsWithin_53 : decode cX5_keepsWithin 53 = .ok (.iadd, 1) := by decide +kernel
theorem dX5_keepsWithin_54 : decode cX5_keepsWithin 54 = .ok (.iaload, 1) := by decide +kernel
theorem dX5_keepsWithin_55 : decode cX5_keepsWithin 55 = .ok (.iadd, 1) := by decide +kernel
theorem dX5_keepsWithin_56 : decode cX5_keepsWithin 56 = .ok (.istore 8, 2) := by decide +kernel
theorem dX5_keepsWithin_58 : decode cX5_keepsWithin 58 = .ok (.iload 8, 2) := by decide +kernel
theorem dX5_keepsWithin_60 : decode cX5_keepsWithin 60 = .ok (.aload_n 2, 1) := by decide +kernel
theorem dX5_keepsWithin_61 : decode cX5_keepsWithin 61 = .ok (.iload 4, 2) := by decide +kernel
theorem dX5_keepsWithin_63 : decode cX5_keepsWithin 63 = .ok (.iload 7, 2) := by decide +kernel
theorem dX5_keepsWithin_65 : decode cX5_keepsWithin 65 = .ok (.iadd, 1) := by decide +kernel
theorem dX5_keepsWithin_66 : decode cX5_keepsWithin 66 = .ok (.iaload, 1) := by decide +kernel
theorem dX5_keepsWithin_67 : decode cX5_keepsWithin 67 = .ok (.if_icmp .lt 15, 3) := by decide +kernel
theorem dX5_keepsWithin_70 : decode cX5_keepsWithin 70 = .ok (.iload 8, 2) := by decide +kernel
theorem dX5_keepsWithin_72 : decode cX5_keepsWithin 72 = .ok (.aload_n 3, 1) := by decide +kernel
theorem dX5_keepsWithin_73 : decode cX5_keepsWithin 73 = .ok (.iload 4, 2) := by decide +kernel
theorem dX5_keepsWithin_75 : decode cX5_keepsWithin 75 = .ok (.iload 7, 2) := by decide +kernel
theorem dX5_keepsWithin_77 : decode cX5_keepsWithin 77 = .ok (.iadd, 1) := by decide +kernel
theorem dX5_keepsWithin_78 : decode cX5_keepsWithin 78 = .ok (.iaload, 1) := by decide +kernel
theorem dX5_keepsWithin_79 : decode cX5_keepsWithin 79 = .ok (.if_icmp .le 5, 3) := by decide +kernel
theorem dX5_keepsWithin_82 : decode cX5_keepsWithin 82 = .ok (.iconst 0, 1) := by decide +kernel
theorem dX5_keepsWithin_83 : decode cX5_keepsWithin 83 = .ok (.ireturn, 1) := by decide +kernel
theorem dX5_keepsWithin_84 : decode cX5_keepsWithin 84 = .ok (.iinc 7 1, 3) := by decide +kernel
theorem dX5_keepsWithin_87 : decode cX5_keepsWithin 87 = .ok (.goto (-58), 3) := by decide +kernel
theorem dX5_keepsWithin_90 : decode cX5_keepsWithin 90 = .ok (.iconst 1, 1) := by decide +kernel
theorem dX5_keepsWithin_91 : decode cX5_keepsWithin 91 = .ok (.ireturn, 1) := by decide +kernel
theorem dX3_narrow_0 : decode cX3_narrow 0 = .ok (.iconst 0, 1) := by decide +kernel
theorem dX3_narrow_1 : decode cX3_narrow 1 = .ok (.istore_n 3, 1) := by decide +kernel
theorem dX3_narrow_2 : decode cX3_narrow 2 = .ok (.iload_n 3, 1) := by decide +kernel
theorem dX3_narrow_3 : decode cX3_narrow 3 = .ok (.aload_n 0, 1) := by decide +kernel
theorem dX3_narrow_4 : decode cX3_narrow 4 = .ok (.getfield 37, 3) := by decide +kernel
theorem dX3_narrow_7 : decode cX3_narrow 7 = .ok (.getfield 72, 3) := by decide +kernel
theorem dX3_narrow_10 : decode cX3_narrow 10 = .ok (.if_icmp .ge 52, 3) := by decide +kernel
theorem dX3_narrow_13 : decode cX3_narrow 13 = .ok (.aload_n 0, 1) := by decide +kernel
theorem dX3_narrow_14 : decode cX3_narrow 14 = .ok (.getfield 13, 3) := by decide +kernel
theorem dX3_narrow_17 : decode cX3_narrow 17 = .ok (.iload_n 3, 1) := by decide +kernel
theorem dX3_narrow_18 : decode cX3_narrow 18 = .ok (.iaload, 1) := by decide +kernel
theorem dX3_narrow_19 : decode cX3_narrow 19 = .ok (.iload_n 1, 1) := by decide +kernel
theorem dX3_narrow_20 : decode cX3_narrow 20 = .ok (.iand, 1) := by decide +kernel
theorem dX3_narrow_21 : decode cX3_narrow 21 = .ok (.ifCond .eq 35, 3) := by decide +kernel
theorem dX3_narrow_24 : decode cX3_narrow 24 = .ok (.aload_n 0, 1) := by decide +kernel
theorem dX3_narrow_25 : decode cX3_narrow 25 = .ok (.getfield 50, 3) := by decide +kernel
theorem dX3_narrow_28 : decode cX3_narrow 28 = .ok (.iload_n 3, 1) := by decide +kernel
theorem dX3_narrow_29 : decode cX3_narrow 29 = .ok (.aload_n 0, 1) := by decide +kernel
theorem dX3_narrow_30 : decode cX3_narrow 30 = .ok (.getfield 31, 3) := by decide +kernel
theorem dX3_narrow_33 : decode cX3_narrow 33 = .ok (.aload_n 0, 1) := by decide +kernel
theorem dX3_narrow_34 : decode cX3_narrow 34 = .ok (.getfield 34, 3) := by decide +kernel
theorem dX3_narrow_37 : decode cX3_narrow 37 = .ok (.iload_n 2, 1) := by decide +kernel
theorem dX3_narrow_38 : decode cX3_narrow 38 = .ok (.invokevirtual 136, 3) := by decide +kernel
theorem dX3_narrow_41 : decode cX3_narrow 41 = .ok (.ifCond .ne 15, 3) := by decide +kernel
theorem dX3_narrow_44 : decode cX3_narrow 44 = .ok (.aload_n 0, 1) := by decide +kernel
theorem dX3_narrow_45 : decode cX3_narrow 45 = .ok (.getfield 13, 3) := by decide +kernel
theorem dX3_narrow_48 : decode cX3_narrow 48 = .ok (.iload_n 3, 1) := by decide +kernel
theorem dX3_narrow_49 : decode cX3_narrow 49 = .ok (.dup2, 1) := by decide +kernel
theorem dX3_narrow_50 : decode cX3_narrow 50 = .ok (.iaload, 1) := by decide +kernel
theorem dX3_narrow_51 : decode cX3_narrow 51 = .ok (.iload_n 1, 1) := by decide +kernel
theorem dX3_narrow_52 : decode cX3_narrow 52 = .ok (.iconst (-1), 1) := by decide +kernel
theorem dX3_narrow_53 : decode cX3_narrow 53 = .ok (.ixor, 1) := by decide +kernel
theorem dX3_narrow_54 : decode cX3_narrow 54 = .ok (.iand, 1) := by decide +kernel
theorem dX3_narrow_55 : decode cX3_narrow 55 = .ok (.iastore, 1) := by decide +kernel
theorem dX3_narrow_56 : decode cX3_narrow 56 = .ok (.iinc 3 1, 3) := by decide +kernel
theorem dX3_narrow_59 : decode cX3_narrow 59 = .ok (.goto (-57), 3) := by decide +kernel
theorem dX3_narrow_62 : decode cX3_narrow 62 = .ok (.return_, 1) := by decide +kernel
theorem dX3_sumUp_0 : decode cX3_sumUp 0 = .ok (.aload_n 0, 1) := by decide +kernel
theorem dX3_sumUp_1 : decode cX3_sumUp 1 = .ok (.iconst 0, 1) := by decide +kernel
theorem dX3_sumUp_2 : decode cX3_sumUp 2 = .ok (.putfield 140, 3) := by decide +kernel
theorem dX3_sumUp_5 : decode cX3_sumUp 5 = .ok (.aload_n 0, 1) := by decide +kernel
theorem dX3_sumUp_6 : decode cX3_sumUp 6 = .ok (.iconst 0, 1) := by decide +kernel
theorem dX3_sumUp_7 : decode cX3_sumUp 7 = .ok (.putfield 143, 3) := by decide +kernel
theorem dX3_sumUp_10 : decode cX3_sumUp 10 = .ok (.aload_n 0, 1) := by decide +kernel
theorem dX3_sumUp_11 : decode cX3_sumUp 11 = .ok (.iconst 0, 1) := by decide +kernel
theorem dX3_sumUp_12 : decode cX3_sumUp 12 = .ok (.putfield 146, 3) := by decide +kernel
theorem dX3_sumUp_15 : decode cX3_sumUp 15 = .ok (.aload_n 0, 1) := by decide +kernel
theorem dX3_sumUp_16 : decode cX3_sumUp 16 = .ok (.iconst (-1), 1) := by decide +kernel
theorem dX3_sumUp_17 : decode cX3_sumUp 17 = .ok (.putfield 147, 3) := by decide +kernel
theorem dX3_sumUp_20 : decode cX3_sumUp 20 = .ok (.iconst 0, 1) := by decide +kernel
theorem dX3_sumUp_21 : decode cX3_sumUp 21 = .ok (.istore_n 1, 1) := by decide +kernel
theorem dX3_sumUp_22 : decode cX3_sumUp 22 = .ok (.iload_n 1, 1) := by decide +kernel
theorem dX3_sumUp_23 : decode cX3_sumUp 23 = .ok (.aload_n 0, 1) := by decide +kernel
theorem dX3_sumUp_24 : decode cX3_sumUp 24 = .ok (.getfield 37, 3) := by decide +kernel
theorem dX3_sumUp_27 : decode cX3_sumUp 27 = .ok (.getfield 72, 3) := by decide +kernel
theorem dX3_sumUp_30 : decode cX3_sumUp 30 = .ok (.if_icmp .ge 83, 3) := by decide +kernel
theorem dX3_sumUp_33 : decode cX3_sumUp 33 = .ok (.aload_n 0, 1) := by decide +kernel
theorem dX3_sumUp_34 : decode cX3_sumUp 34 = .ok (.getfield 13, 3) := by decide +kernel
theorem dX3_sumUp_37 : decode cX3_sumUp 37 = .ok (.iload_n 1, 1) := by decide +kernel
theorem dX3_sumUp_38 : decode cX3_sumUp 38 = .ok (.iaload, 1) := by decide +kernel
theorem dX3_sumUp_39 : decode cX3_sumUp 39 = .ok (.ifCond .eq 68, 3) := by decide +kernel
theorem dX3_sumUp_42 : decode cX3_sumUp 42 = .ok (.aload_n 0, 1) := by decide +kernel
theorem dX3_sumUp_43 : decode cX3_sumUp 43 = .ok (.dup, 1) := by decide +kernel
theorem dX3_sumUp_44 : decode cX3_sumUp 44 = .ok (.getfield 140, 3) := by decide +kernel
theorem dX3_sumUp_47 : decode cX3_sumUp 47 = .ok (.aload_n 0, 1) := by decide +kernel
theorem dX3_sumUp_48 : decode cX3_sumUp 48 = .ok (.getfield 13, 3) := by decide +kernel
theorem dX3_sumUp_51 : decode cX3_sumUp 51 = .ok (.iload_n 1, 1) := by decide +kernel
theorem dX3_sumUp_52 : decode cX3_sumUp 52 = .ok (.iaload, 1) := by decide +kernel
theorem dX3_sumUp_53 : decode cX3_sumUp 53 = .ok (.invokestatic 150, 3) := by decide +kernel
theorem dX3_sumUp_56 : decode cX3_sumUp 56 = .ok (.iadd, 1) := by decide +kernel
theorem dX3_sumUp_57 : decode cX3_sumUp 57 = .ok (.putfield 140, 3) := by decide +kernel
theorem dX3_sumUp_60 : decode cX3_sumUp 60 = .ok (.aload_n 0, 1) := by decide +kernel
theorem dX3_sumUp_61 : decode cX3_sumUp 61 = .ok (.dup, 1) := by decide +kernel
theorem dX3_sumUp_62 : decode cX3_sumUp 62 = .ok (.getfield 143, 3) := by decide +kernel
theorem dX3_sumUp_65 : decode cX3_sumUp 65 = .ok (.aload_n 0, 1) := by decide +kernel
theorem dX3_sumUp_66 : decode cX3_sumUp 66 = .ok (.getfield 13, 3) := by decide +kernel
theorem dX3_sumUp_69 : decode cX3_sumUp 69 = .ok (.iload_n 1, 1) := by decide +kernel
theorem dX3_sumUp_70 : decode cX3_sumUp 70 = .ok (.iaload, 1) := by decide +kernel
theorem dX3_sumUp_71 : decode cX3_sumUp 71 = .ok (.iconst 1, 1) := by decide +kernel
theorem dX3_sumUp_72 : decode cX3_sumUp 72 = .ok (.iand, 1) := by decide +kernel
theorem dX3_sumUp_73 : decode cX3_sumUp 73 = .ok (.iadd, 1) := by decide +kernel
theorem dX3_sumUp_74 : decode cX3_sumUp 74 = .ok (.putfield 143, 3) := by decide +kernel
theorem dX3_sumUp_77 : decode cX3_sumUp 77 = .ok (.aload_n 0, 1) := by decide +kernel
theorem dX3_sumUp_78 : decode cX3_sumUp 78 = .ok (.dup, 1) := by decide +kernel
theorem dX3_sumUp_79 : decode cX3_sumUp 79 = .ok (.getfield 146, 3) := by decide +kernel
theorem dX3_sumUp_82 : decode cX3_sumUp 82 = .ok (.iconst 1, 1) := by decide +kernel
theorem dX3_sumUp_83 : decode cX3_sumUp 83 = .ok (.iadd, 1) := by decide +kernel
theorem dX3_sumUp_84 : decode cX3_sumUp 84 = .ok (.putfield 146, 3) := by decide +kernel
theorem dX3_sumUp_87 : decode cX3_sumUp 87 = .ok (.aload_n 0, 1) := by decide +kernel
theorem dX3_sumUp_88 : decode cX3_sumUp 88 = .ok (.aload_n 0, 1) := by decide +kernel
theorem dX3_sumUp_89 : decode cX3_sumUp 89 = .ok (.getfield 147, 3) := by decide +kernel
theorem dX3_sumUp_92 : decode cX3_sumUp 92 = .ok (.iconst (-1), 1) := by decide +kernel
theorem dX3_sumUp_93 : decode cX3_sumUp 93 = .ok (.if_icmp .ne 7, 3) := by decide +kernel
theorem dX3_sumUp_96 : decode cX3_sumUp 96 = .ok (.iload_n 1, 1) := by decide +kernel
theorem dX3_sumUp_97 : decode cX3_sumUp 97 = .ok (.goto 7, 3) := by decide +kernel
theorem dX3_sumUp_100 : decode cX3_sumUp 100 = .ok (.aload_n 0, 1) := by decide +kernel
theorem dX3_sumUp_101 : decode cX3_sumUp 101 = .ok (.getfield 147, 3) := by decide +kernel
theorem dX3_sumUp_104 : decode cX3_sumUp 104 = .ok (.putfield 147, 3) := by decide +kernel
theorem dX3_sumUp_107 : decode cX3_sumUp 107 = .ok (.iinc 1 1, 3) := by decide +kernel
theorem dX3_sumUp_110 : decode cX3_sumUp 110 = .ok (.goto (-88), 3) := by decide +kernel
theorem dX3_sumUp_113 : decode cX3_sumUp 113 = .ok (.return_, 1) := by decide +kernel
theorem dX9_rowOf_0 : decode cX9_rowOf 0 = .ok (.iload_n 0, 1) := by decide +kernel
theorem dX9_rowOf_1 : decode cX9_rowOf 1 = .ok (.bipush 9, 2) := by decide +kernel
theorem dX9_rowOf_3 : decode cX9_rowOf 3 = .ok (.imul, 1) := by decide +kernel
theorem dX9_rowOf_4 : decode cX9_rowOf 4 = .ok (.iload_n 1, 1) := by decide +kernel
theorem dX9_rowOf_5 : decode cX9_rowOf 5 = .ok (.iadd, 1) := by decide +kernel
theorem dX9_rowOf_6 : decode cX9_rowOf 6 = .ok (.iconst 1, 1) := by decide +kernel
theorem dX9_rowOf_7 : decode cX9_rowOf 7 = .ok (.isub, 1) := by decide +kernel
theorem dX9_rowOf_8 : decode cX9_rowOf 8 = .ok (.ireturn, 1) := by decide +kernel
theorem dX5_mix_0 : decode cX5_mix 0 = .ok (.aload_n 0, 1) := by decide +kernel
theorem dX5_mix_1 : decode cX5_mix 1 = .ok (.getfield 15, 3) := by decide +kernel
theorem dX5_mix_4 : decode cX5_mix 4 = .ok (.getfield 19, 3) := by decide +kernel
theorem dX5_mix_7 : decode cX5_mix 7 = .ok (.astore_n 2, 1) := by decide +kernel
theorem dX5_mix_8 : decode cX5_mix 8 = .ok (.iconst 0, 1) := by decide +kernel
theorem dX5_mix_9 : decode cX5_mix 9 = .ok (.istore_n 3, 1) := by decide +kernel
theorem dX5_mix_10 : decode cX5_mix 10 = .ok (.iload_n 3, 1) := by decide +kernel
theorem dX5_mix_11 : decode cX5_mix 11 = .ok (.aload_n 2, 1) := by decide +kernel
theorem dX5_mix_12 : decode cX5_mix 12 = .ok (.getfield 23, 3) := by decide +kernel
theorem dX5_mix_15 : decode cX5_mix 15 = .ok (.if_icmp .ge 85, 3) := by decide +kernel
theorem dX5_mix_18 : decode cX5_mix 18 = .ok (.aload_n 2, 1) := by decide +kernel
theorem dX5_mix_19 : decode cX5_mix 19 = .ok (.iload_n 3, 1) := by decide +kernel
theorem dX5_mix_20 : decode cX5_mix 20 = .ok (.iload_n 1, 1) := by decide +kernel
theorem dX5_mix_21 : decode cX5_mix 21 = .ok (.invokevirtual 29, 3) := by decide +kernel
theorem dX5_mix_24 : decode cX5_mix 24 = .ok (.istore 4, 2) := by decide +kernel
theorem dX5_mix_26 : decode cX5_mix 26 = .ok (.iconst 0, 1) := by decide +kernel
theorem dX5_mix_27 : decode cX5_mix 27 = .ok (.istore 5, 2) := by decide +kernel
theorem dX5_mix_29 : decode cX5_mix 29 = .ok (.iload 5, 2) := by decide +kernel
theorem dX5_mix_31 : decode cX5_mix 31 = .ok (.iconst 3, 1) := by decide +kernel
theorem dX5_mix_32 : decode cX5_mix 32 = .ok (.if_icmp .ge 62, 3) := by decide +kernel
theorem dX5_mix_35 : decode cX5_mix 35 = .ok (.aload_n 2, 1) := by decide +kernel
theorem dX5_mix_36 : decode cX5_mix 36 = .ok (.iload_n 3, 1) := by decide +kernel
theorem dX5_mix_37 : decode cX5_mix 37 = .ok (.iload 5, 2) := by decide +kernel
theorem dX5_mix_39 : decode cX5_mix 39 = .ok (.invokevirtual 33, 3) := by decide +kernel
theorem dX5_mix_42 : decode cX5_mix 42 = .ok (.istore 6, 2) := by decide +kernel
theorem dX5_mix_44 : decode cX5_mix 44 = .ok (.iconst 1, 1) := by decide +kernel
theorem dX5_mix_45 : decode cX5_mix 45 = .ok (.istore 7, 2) := by decide +kernel
theorem dX5_mix_47 : decode cX5_mix 47 = .ok (.iload 7, 2) := by decide +kernel
theorem dX5_mix_49 : decode cX5_mix 49 = .ok (.bipush 9, 2) := by decide +kernel
theorem dX5_mix_51 : decode cX5_mix 51 = .ok (.if_icmp .gt 37, 3) := by decide +kernel
theorem dX5_mix_54 : decode cX5_mix 54 = .ok (.aload_n 0, 1) := by decide +kernel
theorem dX5_mix_55 : decode cX5_mix 55 = .ok (.getfield 9, 3) := by decide +kernel
theorem dX5_mix_58 : decode cX5_mix 58 = .ok (.iload_n 3, 1) := by decide +kernel
theorem dX5_mix_59 : decode cX5_mix 59 = .ok (.iload 7, 2) := by decide +kernel
theorem dX5_mix_61 : decode cX5_mix 61 = .ok (.invokestatic 36, 3) := by decide +kernel
theorem dX5_mix_64 : decode cX5_mix 64 = .ok (.iconst 3, 1) := by decide +kernel
theorem dX5_mix_65 : decode cX5_mix 65 = .ok (.imul, 1) := by decide +kernel
theorem dX5_mix_66 : decode cX5_mix 66 = .ok (.iload 5, 2) := by decide +kernel
theorem dX5_mix_68 : decode cX5_mix 68 = .ok (.iadd, 1) := by decide +kernel
theorem dX5_mix_69 : decode cX5_mix 69 = .ok (.iload 7, 2) := by decide +kernel
theorem dX5_mix_71 : decode cX5_mix 71 = .ok (.iload 6, 2) := by decide +kernel
theorem dX5_mix_73 : decode cX5_mix 73 = .ok (.imul, 1) := by decide +kernel
theorem dX5_mix_74 : decode cX5_mix 74 = .ok (.iload 4, 2) := by decide +kernel
theorem dX5_mix_76 : decode cX5_mix 76 = .ok (.imul, 1) := by decide +kernel
theorem dX5_mix_77 : decode cX5_mix 77 = .ok (.sipush 9000, 3) := by decide +kernel
theorem dX5_mix_80 : decode cX5_mix 80 = .ok (.idiv, 1) := by decide +kernel
theorem dX5_mix_81 : decode cX5_mix 81 = .ok (.iastore, 1) := by decide +kernel
theorem dX5_mix_82 : decode cX5_mix 82 = .ok (.iinc 7 1, 3) := by decide +kernel
theorem dX5_mix_85 : decode cX5_mix 85 = .ok (.goto (-38), 3) := by decide +kernel
theorem dX5_mix_88 : decode cX5_mix 88 = .ok (.iinc 5 1, 3) := by decide +kernel
theorem dX5_mix_91 : decode cX5_mix 91 = .ok (.goto (-62), 3) := by decide +kernel
theorem dX5_mix_94 : decode cX5_mix 94 = .ok (.iinc 3 1, 3) := by decide +kernel
theorem dX5_mix_97 : decode cX5_mix 97 = .ok (.goto (-87), 3) := by decide +kernel
theorem dX5_mix_100 : decode cX5_mix 100 = .ok (.return_, 1) := by decide +kernel
theorem dX3_find_0 : decode cX3_find 0 = .ok (.aload_n 0, 1) := by decide +kernel
theorem dX3_find_1 : decode cX3_find 1 = .ok (.getfield 37, 3) := by decide +kernel
theorem dX3_find_4 : decode cX3_find 4 = .ok (.getfield 54, 3) := by decide +kernel
theorem dX3_find_7 : decode cX3_find 7 = .ok (.astore 4, 2) := by decide +kernel
theorem dX3_find_9 : decode cX3_find 9 = .ok (.aload 4, 2) := by decide +kernel
theorem dX3_find_11 : decode cX3_find 11 = .ok (.iload_n 1, 1) := by decide +kernel
theorem dX3_find_12 : decode cX3_find 12 = .ok (.invokevirtual 58, 3) := by decide +kernel
theorem dX3_find_15 : decode cX3_find 15 = .ok (.istore 5, 2) := by decide +kernel
theorem dX3_find_17 : decode cX3_find 17 = .ok (.aload 4, 2) := by decide +kernel
theorem dX3_find_19 : decode cX3_find 19 = .ok (.getfield 64, 3) := by decide +kernel
theorem dX3_find_22 : decode cX3_find 22 = .ok (.iconst 1, 1) := by decide +kernel
theorem dX3_find_23 : decode cX3_find 23 = .ok (.iadd, 1) := by decide +kernel
theorem dX3_find_24 : decode cX3_find 24 = .ok (.istore 6, 2) := by decide +kernel
theorem dX3_find_26 : decode cX3_find 26 = .ok (.aload_n 0, 1) := by decide +kernel
theorem dX3_find_27 : decode cX3_find 27 = .ok (.iload_n 1, 1) := by decide +kernel
theorem dX3_find_28 : decode cX3_find 28 = .ok (.iload_n 3, 1) := by decide +kernel
theorem dX3_find_29 : decode cX3_find 29 = .ok (.invokevirtual 68, 3) := by decide +kernel
theorem dX3_find_32 : decode cX3_find 32 = .ok (.aload_n 0, 1) := by decide +kernel
theorem dX3_find_33 : decode cX3_find 33 = .ok (.getfield 13, 3) := by decide +kernel
theorem dX3_find_36 : decode cX3_find 36 = .ok (.iconst 0, 1) := by decide +kernel
theorem dX3_find_37 : decode cX3_find 37 = .ok (.aload_n 0, 1) := by decide +kernel
theorem dX3_find_38 : decode cX3_find 38 = .ok (.getfield 37, 3) := by decide +kernel
theorem dX3_find_41 : decode cX3_find 41 = .ok (.getfield 72, 3) := by decide +kernel
theorem dX3_find_44 : decode cX3_find 44 = .ok (.iconst 1, 1) := by decide +kernel
theorem dX3_find_45 : decode cX3_find 45 = .ok (.iload 6, 2) := by decide +kernel
theorem dX3_find_47 : decode cX3_find 47 = .ok (.ishl, 1) := by decide +kernel
theorem dX3_find_48 : decode cX3_find 48 = .ok (.iconst 1, 1) := by decide +kernel
theorem dX3_find_49 : decode cX3_find 49 = .ok (.isub, 1) := by decide +kernel
theorem dX3_find_50 : decode cX3_find 50 = .ok (.invokestatic 75, 3) := by decide +kernel
theorem dX3_find_53 : decode cX3_find 53 = .ok (.iconst 0, 1) := by decide +kernel
theorem dX3_find_54 : decode cX3_find 54 = .ok (.istore 7, 2) := by decide +kernel
theorem dX3_find_56 : decode cX3_find 56 = .ok (.iload 7, 2) := by decide +kernel
theorem dX3_find_58 : decode cX3_find 58 = .ok (.iload 6, 2) := by decide +kernel
theorem dX3_find_60 : decode cX3_find 60 = .ok (.if_icmp .ge 80, 3) := by decide +kernel
theorem dX3_find_63 : decode cX3_find 63 = .ok (.aload 4, 2) := by decide +kernel
theorem dX3_find_65 : decode cX3_find 65 = .ok (.iload 7, 2) := by decide +kernel
theorem dX3_find_67 : decode cX3_find 67 = .ok (.invokevirtual 81, 3) := by decide +kernel
theorem dX3_find_70 : decode cX3_find 70 = .ok (.istore 8, 2) := by decide +kernel
theorem dX3_find_72 : decode cX3_find 72 = .ok (.iconst 0, 1) := by decide +kernel
theorem dX3_find_73 : decode cX3_find 73 = .ok (.istore 9, 2) := by decide +kernel
theorem dX3_find_75 : decode cX3_find 75 = .ok (.iload 9, 2) := by decide +kernel
theorem dX3_find_77 : decode cX3_find 77 = .ok (.aload_n 0, 1) := by decide +kernel
theorem dX3_find_78 : decode cX3_find 78 = .ok (.getfield 84, 3) := by decide +kernel
theorem dX3_find_81 : decode cX3_find 81 = .ok (.if_icmp .ge 53, 3) := by decide +kernel
theorem dX3_find_84 : decode cX3_find 84 = .ok (.aload_n 0, 1) := by decide +kernel
theorem dX3_find_85 : decode cX3_find 85 = .ok (.getfield 50, 3) := by decide +kernel
theorem dX3_find_88 : decode cX3_find 88 = .ok (.aload 4, 2) := by decide +kernel
theorem dX3_find_90 : decode cX3_find 90 = .ok (.iload_n 2, 1) := by decide +kernel
theorem dX3_find_91 : decode cX3_find 91 = .ok (.iload 5, 2) := by decide +kernel
theorem dX3_find_93 : decode cX3_find 93 = .ok (.iload 8, 2) := by decide +kernel
theorem dX3_find_95 : decode cX3_find 95 = .ok (.aload_n 0, 1) := by decide +kernel
theorem dX3_find_96 : decode cX3_find 96 = .ok (.getfield 25, 3) := by decide +kernel
theorem dX3_find_99 : decode cX3_find 99 = .ok (.iload 9, 2) := by decide +kernel
theorem dX3_find_101 : decode cX3_find 101 = .ok (.iaload, 1) := by decide +kernel
theorem dX3_find_102 : decode cX3_find 102 = .ok (.invokevirtual 87, 3) := by decide +kernel
theorem dX3_find_105 : decode cX3_find 105 = .ok (.aload_n 0, 1) := by decide +kernel
theorem dX3_find_106 : decode cX3_find 106 = .ok (.getfield 28, 3) := by decide +kernel
theorem dX3_find_109 : decode cX3_find 109 = .ok (.iload 9, 2) := by decide +kernel
theorem dX3_find_111 : decode cX3_find 111 = .ok (.iaload, 1) := by decide +kernel
theorem dX3_find_112 : decode cX3_find 112 = .ok (.iadd, 1) := by decide +kernel
theorem dX3_find_113 : decode cX3_find 113 = .ok (.invokevirtual 91, 3) := by decide +kernel
theorem dX3_find_116 : decode cX3_find 116 = .ok (.aload_n 0, 1) := by decide +kernel
theorem dX3_find_117 : decode cX3_find 117 = .ok (.iconst 1, 1) := by decide +kernel
theorem dX3_find_118 : decode cX3_find 118 = .ok (.iload 7, 2) := by decide +kernel
theorem dX3_find_120 : decode cX3_find 120 = .ok (.ishl, 1) := by decide +kernel
theorem dX3_find_121 : decode cX3_find 121 = .ok (.iload 9, 2) := by decide +kernel
theorem dX3_find_123 : decode cX3_find 123 = .ok (.iconst 3, 1) := by decide +kernel
theorem dX3_find_124 : decode cX3_find 124 = .ok (.imul, 1) := by decide +kernel
theorem dX3_find_125 : decode cX3_find 125 = .ok (.invokevirtual 95, 3) := by decide +kernel
theorem dX3_find_128 : decode cX3_find 128 = .ok (.iinc 9 1, 3) := by decide +kernel
theorem dX3_find_131 : decode cX3_find 131 = .ok (.goto (-56), 3) := by decide +kernel
theorem dX3_find_134 : decode cX3_find 134 = .ok (.iinc 7 1, 3) := by decide +kernel
theorem dX3_find_137 : decode cX3_find 137 = .ok (.goto (-81), 3) := by decide +kernel
theorem dX3_find_140 : decode cX3_find 140 = .ok (.aload_n 0, 1) := by decide +kernel
theorem dX3_find_141 : decode cX3_find 141 = .ok (.invokevirtual 98, 3) := by decide +kernel
theorem dX3_find_144 : decode cX3_find 144 = .ok (.return_, 1) := by decide +kernel
theorem dX3_pairPart_0 : decode cX3_pairPart 0 = .ok (.iload_n 1, 1) := by decide +kernel
theorem dX3_pairPart_1 : decode cX3_pairPart 1 = .ok (.istore_n 3, 1) := by decide +kernel
theorem dX3_pairPart_2 : decode cX3_pairPart 2 = .ok (.iconst 0, 1) := by decide +kernel
theorem dX3_pairPart_3 : decode cX3_pairPart 3 = .ok (.istore 4, 2) := by decide +kernel
theorem dX3_pairPart_5 : decode cX3_pairPart 5 = .ok (.iload 4, 2) := by decide +kernel
theorem dX3_pairPart_7 : decode cX3_pairPart 7 = .ok (.aload_n 0, 1) := by decide +kernel
theorem dX3_pairPart_8 : decode cX3_pairPart 8 = .ok (.getfield 37, 3) := by decide +kernel
theorem dX3_pairPart_11 : decode cX3_pairPart 11 = .ok (.getfield 72, 3) := by decide +kernel
theorem dX3_pairPart_14 : decode cX3_pairPart 14 = .ok (.if_icmp .ge 77, 3) := by decide +kernel
theorem dX3_pairPart_17 : decode cX3_pairPart 17 = .ok (.iconst 0, 1) := by decide +kernel
theorem dX3_pairPart_18 : decode cX3_pairPart 18 = .ok (.istore 5, 2) := by decide +kernel
theorem dX3_pairPart_20 : decode cX3_pairPart 20 = .ok (.iload 5, 2) := by decide +kernel
theorem dX3_pairPart_22 : decode cX3_pairPart 22 = .ok (.aload_n 0, 1) := by decide +kernel
theorem dX3_pairPart_23 : decode cX3_pairPart 23 = .ok (.getfield 37, 3) := by decide +kernel
theorem dX3_pairPart_26 : decode cX3_pairPart 26 = .ok (.getfield 54, 3) := by decide +kernel
theorem dX3_pairPart_29 : decode cX3_pairPart 29 = .ok (.getfield 64, 3) := by decide +kernel
theorem dX3_pairPart_32 : decode cX3_pairPart 32 = .ok (.if_icmp .gt 53, 3) := by decide +kernel
theorem dX3_pairPart_35 : decode cX3_pairPart 35 = .ok (.aload_n 0, 1) := by decide +kernel
theorem dX3_pairPart_36 : decode cX3_pairPart 36 = .ok (.getfield 13, 3) := by decide +kernel
theorem dX3_pairPart_39 : decode cX3_pairPart 39 = .ok (.iload 4, 2) := by decide +kernel
theorem dX3_pairPart_41 : decode cX3_pairPart 41 = .ok (.iaload, 1) := by decide +kernel
theorem dX3_pairPart_42 : decode cX3_pairPart 42 = .ok (.iload 5, 2) := by decide +kernel
theorem dX3_pairPart_44 : decode cX3_pairPart 44 = .ok (.ishr, 1) := by decide +kernel
theorem dX3_pairPart_45 : decode cX3_pairPart 45 = .ok (.iconst 1, 1) := by decide +kernel
theorem dX3_pairPart_46 : decode cX3_pairPart 46 = .ok (.iand, 1) := by decide +kernel
theorem dX3_pairPart_47 : decode cX3_pairPart 47 = .ok (.ifCond .eq 32, 3) := by decide +kernel
theorem dX3_pairPart_50 : decode cX3_pairPart 50 = .ok (.iload_n 3, 1) := by decide +kernel
theorem dX3_pairPart_51 : decode cX3_pairPart 51 = .ok (.ifCond .ne 25, 3) := by decide +kernel
theorem dX3_pairPart_54 : decode cX3_pairPart 54 = .ok (.iload_n 2, 1) := by decide +kernel
theorem dX3_pairPart_55 : decode cX3_pairPart 55 = .ok (.ifCond .eq 8, 3) := by decide +kernel
theorem dX3_pairPart_58 : decode cX3_pairPart 58 = .ok (.iload 4, 2) := by decide +kernel
theorem dX3_pairPart_60 : decode cX3_pairPart 60 = .ok (.goto 15, 3) := by decide +kernel
theorem dX3_pairPart_63 : decode cX3_pairPart 63 = .ok (.aload_n 0, 1) := by decide +kernel
theorem dX3_pairPart_64 : decode cX3_pairPart 64 = .ok (.getfield 37, 3) := by decide +kernel
theorem dX3_pairPart_67 : decode cX3_pairPart 67 = .ok (.getfield 54, 3) := by decide +kernel
theorem dX3_pairPart_70 : decode cX3_pairPart 70 = .ok (.iload 5, 2) := by decide +kernel
theorem dX3_pairPart_72 : decode cX3_pairPart 72 = .ok (.invokevirtual 81, 3) := by decide +kernel
theorem dX3_pairPart_75 : decode cX3_pairPart 75 = .ok (.ireturn, 1) := by decide +kernel
theorem dX3_pairPart_76 : decode cX3_pairPart 76 = .ok (.iinc 3 (-1), 3) := by decide +kernel
theorem dX3_pairPart_79 : decode cX3_pairPart 79 = .ok (.iinc 5 1, 3) := by decide +kernel
theorem dX3_pairPart_82 : decode cX3_pairPart 82 = .ok (.goto (-62), 3) := by decide +kernel
theorem dX3_pairPart_85 : decode cX3_pairPart 85 = .ok (.iinc 4 1, 3) := by decide +kernel
theorem dX3_pairPart_88 : decode cX3_pairPart 88 = .ok (.goto (-83), 3) := by decide +kernel
theorem dX3_pairPart_91 : decode cX3_pairPart 91 = .ok (.iconst (-1), 1) := by decide +kernel
theorem dX3_pairPart_92 : decode cX3_pairPart 92 = .ok (.ireturn, 1) := by decide +kernel
theorem dX8_isBlank_0 : decode cX8_isBlank 0 = .ok (.aload_n 0, 1) := by decide +kernel
theorem dX8_isBlank_1 : decode cX8_isBlank 1 = .ok (.aload_n 0, 1) := by decide +kernel
theorem dX8_isBlank_2 : decode cX8_isBlank 2 = .ok (.iload_n 1, 1) := by decide +kernel
theorem dX8_isBlank_3 : decode cX8_isBlank 3 = .ok (.iconst 0, 1) := by decide +kernel
theorem dX8_isBlank_4 : decode cX8_isBlank 4 = .ok (.iload_n 2, 1) := by decide +kernel
theorem dX8_isBlank_5 : decode cX8_isBlank 5 = .ok (.invokevirtual 54, 3) := by decide +kernel
theorem dX8_isBlank_8 : decode cX8_isBlank 8 = .ok (.invokevirtual 58, 3) := by decide +kernel
theorem dX8_isBlank_11 : decode cX8_isBlank 11 = .ok (.ifCond .ne 17, 3) := by decide +kernel
theorem dX8_isBlank_14 : decode cX8_isBlank 14 = .ok (.aload_n 0, 1) := by decide +kernel
theorem dX8_isBlank_15 : decode cX8_isBlank 15 = .ok (.aload_n 0, 1) := by decide +kernel
theorem dX8_isBlank_16 : decode cX8_isBlank 16 = .ok (.iload_n 1, 1) := by decide +kernel
theorem dX8_isBlank_17 : decode cX8_isBlank 17 = .ok (.iconst 1, 1) := by decide +kernel
theorem dX8_isBlank_18 : decode cX8_isBlank 18 = .ok (.iload_n 2, 1) := by decide +kernel
theorem dX8_isBlank_19 : decode cX8_isBlank 19 = .ok (.invokevirtual 54, 3) := by decide +kernel
theorem dX8_isBlank_22 : decode cX8_isBlank 22 = .ok (.invokevirtual 58, 3) := by decide +kernel
theorem dX8_isBlank_25 : decode cX8_isBlank 25 = .ok (.ifCond .eq 5, 3) := by decide +kernel
theorem dX8_isBlank_28 : decode cX8_isBlank 28 = .ok (.iconst 0, 1) := by decide +kernel
theorem dX8_isBlank_29 : decode cX8_isBlank 29 = .ok (.ireturn, 1) := by decide +kernel
theorem dX8_isBlank_30 : decode cX8_isBlank 30 = .ok (.iconst 0, 1) := by decide +kernel
theorem dX8_isBlank_31 : decode cX8_isBlank 31 = .ok (.istore_n 3, 1) := by decide +kernel
theorem dX8_isBlank_32 : decode cX8_isBlank 32 = .ok (.iload_n 3, 1) := by decide +kernel
theorem dX8_isBlank_33 : decode cX8_isBlank 33 = .ok (.aload_n 0, 1) := by decide +kernel
theorem dX8_isBlank_34 : decode cX8_isBlank 34 = .ok (.getfield 25, 3) := by decide +kernel
theorem dX8_isBlank_37 : decode cX8_isBlank 37 = .ok (.if_icmp .ge 21, 3) := by decide +kernel
theorem dX8_isBlank_40 : decode cX8_isBlank 40 = .ok (.aload_n 0, 1) := by decide +kernel
theorem dX8_isBlank_41 : decode cX8_isBlank 41 = .ok (.iload_n 3, 1) := by decide +kernel
theorem dX8_isBlank_42 : decode cX8_isBlank 42 = .ok (.iload_n 1, 1) := by decide +kernel
theorem dX8_isBlank_43 : decode cX8_isBlank 43 = .ok (.iload_n 2, 1) := by decide +kernel
theorem dX8_isBlank_44 : decode cX8_isBlank 44 = .ok (.invokevirtual 62, 3) := by decide +kernel
theorem dX8_isBlank_47 : decode cX8_isBlank 47 = .ok (.ifCond .eq 5, 3) := by decide +kernel
theorem dX8_isBlank_50 : decode cX8_isBlank 50 = .ok (.iconst 0, 1) := by decide +kernel
theorem dX8_isBlank_51 : decode cX8_isBlank 51 = .ok (.ireturn, 1) := by decide +kernel
theorem dX8_isBlank_52 : decode cX8_isBlank 52 = .ok (.iinc 3 1, 3) := by decide +kernel
theorem dX8_isBlank_55 : decode cX8_isBlank 55 = .ok (.goto (-23), 3) := by decide +kernel
theorem dX8_isBlank_58 : decode cX8_isBlank 58 = .ok (.iconst 1, 1) := by decide +kernel
theorem dX8_isBlank_59 : decode cX8_isBlank 59 = .ok (.ireturn, 1) := by decide +kernel
theorem dX10_bear_0 : decode cX10_bear 0 = .ok (.aload_n 0, 1) := by decide +kernel
theorem dX10_bear_1 : decode cX10_bear 1 = .ok (.iload_n 1, 1) := by decide +kernel
theorem dX10_bear_2 : decode cX10_bear 2 = .ok (.invokevirtual 163, 3) := by decide +kernel
theorem dX10_bear_5 : decode cX10_bear 5 = .ok (.ifCond .eq 23, 3) := by decide +kernel
theorem dX10_bear_8 : decode cX10_bear 8 = .ok (.iload_n 2, 1) := by decide +kernel
theorem dX10_bear_9 : decode cX10_bear 9 = .ok (.iconst 1, 1) := by decide +kernel
theorem dX10_bear_10 : decode cX10_bear 10 = .ok (.bipush 99, 2) := by decide +kernel
theorem dX10_bear_12 : decode cX10_bear 12 = .ok (.invokestatic 133, 3) := by decide +kernel
theorem dX10_bear_15 : decode cX10_bear 15 = .ok (.ifCond .eq 13, 3) := by decide +kernel
theorem dX10_bear_18 : decode cX10_bear 18 = .ok (.iload_n 3, 1) := by decide +kernel
theorem dX10_bear_19 : decode cX10_bear 19 = .ok (.iconst 0, 1) := by decide +kernel
theorem dX10_bear_20 : decode cX10_bear 20 = .ok (.bipush 99, 2) := by decide +kernel
theorem dX10_bear_22 : decode cX10_bear 22 = .ok (.invokestatic 133, 3) := by decide +kernel
theorem dX10_bear_25 : decode cX10_bear 25 = .ok (.ifCond .ne 6, 3) := by decide +kernel
theorem dX10_bear_28 : decode cX10_bear 28 = .ok (.bipush (-2), 2) := by decide +kernel
theorem dX10_bear_30 : decode cX10_bear 30 = .ok (.ireturn, 1) := by decide +kernel
theorem dX10_bear_31 : decode cX10_bear 31 = .ok (.sipush 400, 3) := by decide +kernel
theorem dX10_bear_34 : decode cX10_bear 34 = .ok (.istore 4, 2) := by decide +kernel
theorem dX10_bear_36 : decode cX10_bear 36 = .ok (.iconst 0, 1) := by decide +kernel
theorem dX10_bear_37 : decode cX10_bear 37 = .ok (.istore 5, 2) := by decide +kernel
theorem dX10_bear_39 : decode cX10_bear 39 = .ok (.iload 5, 2) := by decide +kernel
theorem dX10_bear_41 : decode cX10_bear 41 = .ok (.aload_n 0, 1) := by decide +kernel
theorem dX10_bear_42 : decode cX10_bear 42 = .ok (.getfield 24, 3) := by decide +kernel
theorem dX10_bear_45 : decode cX10_bear 45 = .ok (.getfield 110, 3) := by decide +kernel
theorem dX10_bear_48 : decode cX10_bear 48 = .ok (.invokevirtual 296, 3) := by decide +kernel
theorem dX10_bear_51 : decode cX10_bear 51 = .ok (.if_icmp .ge 105, 3) := by decide +kernel
theorem dX10_bear_54 : decode cX10_bear 54 = .ok (.aload_n 0, 1) := by decide +kernel
theorem dX10_bear_55 : decode cX10_bear 55 = .ok (.getfield 44, 3) := by decide +kernel
theorem dX10_bear_58 : decode cX10_bear 58 = .ok (.iload 5, 2) := by decide +kernel
theorem dX10_bear_60 : decode cX10_bear 60 = .ok (.sipush 999, 3) := by decide +kernel
theorem dX10_bear_63 : decode cX10_bear 63 = .ok (.invokevirtual 306, 3) := by decide +kernel
theorem dX10_bear_66 : decode cX10_bear 66 = .ok (.ifCond .eq 6, 3) := by decide +kernel
theorem dX10_bear_69 : decode cX10_bear 69 = .ok (.goto 81, 3) := by decide +kernel
theorem dX10_bear_72 : decode cX10_bear 72 = .ok (.aload_n 0, 1) := by decide +kernel
theorem dX10_bear_73 : decode cX10_bear 73 = .ok (.getfield 57, 3) := by decide +kernel
theorem dX10_bear_76 : decode cX10_bear 76 = .ok (.iload 5, 2) := by decide +kernel
theorem dX10_bear_78 : decode cX10_bear 78 = .ok (.iload_n 1, 1) := by decide +kernel
theorem dX10_bear_79 : decode cX10_bear 79 = .ok (.sipush 999, 3) := by decide +kernel
theorem dX10_bear_82 : decode cX10_bear 82 = .ok (.invokevirtual 241, 3) := by decide +kernel
theorem dX10_bear_85 : decode cX10_bear 85 = .ok (.aload_n 0, 1) := by decide +kernel
theorem dX10_bear_86 : decode cX10_bear 86 = .ok (.getfield 57, 3) := by decide +kernel
theorem dX10_bear_89 : decode cX10_bear 89 = .ok (.getfield 245, 3) := by decide +kernel
theorem dX10_bear_92 : decode cX10_bear 92 = .ok (.iconst 1, 1) := by decide +kernel
theorem dX10_bear_93 : decode cX10_bear 93 = .ok (.if_icmp .ne 57, 3) := by decide +kernel
theorem dX10_bear_96 : decode cX10_bear 96 = .ok (.aload_n 0, 1) := by decide +kernel
theorem dX10_bear_97 : decode cX10_bear 97 = .ok (.getfield 24, 3) := by decide +kernel
theorem dX10_bear_100 : decode cX10_bear 100 = .ok (.getfield 110, 3) := by decide +kernel
theorem dX10_bear_103 : decode cX10_bear 103 = .ok (.iload_n 1, 1) := by decide +kernel
theorem dX10_bear_104 : decode cX10_bear 104 = .ok (.aload_n 0, 1) := by decide +kernel
theorem dX10_bear_105 : decode cX10_bear 105 = .ok (.getfield 24, 3) := by decide +kernel
theorem dX10_bear_108 : decode cX10_bear 108 = .ok (.getfield 110, 3) := by decide +kernel
theorem dX10_bear_111 : decode cX10_bear 111 = .ok (.iload 5, 2) := by decide +kernel
theorem dX10_bear_113 : decode cX10_bear 113 = .ok (.invokevirtual 309, 3) := by decide +kernel
theorem dX10_bear_116 : decode cX10_bear 116 = .ok (.aload_n 0, 1) := by decide +kernel
theorem dX10_bear_117 : decode cX10_bear 117 = .ok (.getfield 57, 3) := by decide +kernel
theorem dX10_bear_120 : decode cX10_bear 120 = .ok (.iconst 0, 1) := by decide +kernel
theorem dX10_bear_121 : decode cX10_bear 121 = .ok (.iconst 0, 1) := by decide +kernel
theorem dX10_bear_122 : decode cX10_bear 122 = .ok (.invokevirtual 254, 3) := by decide +kernel
theorem dX10_bear_125 : decode cX10_bear 125 = .ok (.iconst 0, 1) := by decide +kernel
theorem dX10_bear_126 : decode cX10_bear 126 = .ok (.invokevirtual 173, 3) := by decide +kernel
theorem dX10_bear_129 : decode cX10_bear 129 = .ok (.istore 6, 2) := by decide +kernel
theorem dX10_bear_131 : decode cX10_bear 131 = .ok (.aload_n 0, 1) := by decide +kernel
theorem dX10_bear_132 : decode cX10_bear 132 = .ok (.aload_n 0, 1) := by decide +kernel
theorem dX10_bear_133 : decode cX10_bear 133 = .ok (.getfield 57, 3) := by decide +kernel
theorem dX10_bear_136 : decode cX10_bear 136 = .ok (.getfield 251, 3) := by decide +kernel
theorem dX10_bear_139 : decode cX10_bear 139 = .ok (.iload 6, 2) := by decide +kernel
theorem dX10_bear_141 : decode cX10_bear 141 = .ok (.iload_n 2, 1) := by decide +kernel
theorem dX10_bear_142 : decode cX10_bear 142 = .ok (.iload_n 3, 1) := by decide +kernel
theorem dX10_bear_143 : decode cX10_bear 143 = .ok (.iload 4, 2) := by decide +kernel
theorem dX10_bear_145 : decode cX10_bear 145 = .ok (.invokevirtual 334, 3) := by decide +kernel
theorem dX10_bear_148 : decode cX10_bear 148 = .ok (.istore 4, 2) := by decide +kernel
theorem dX10_bear_150 : decode cX10_bear 150 = .ok (.iinc 5 1, 3) := by decide +kernel
theorem dX10_bear_153 : decode cX10_bear 153 = .ok (.goto (-114), 3) := by decide +kernel
theorem dX10_bear_156 : decode cX10_bear 156 = .ok (.iload 4, 2) := by decide +kernel
theorem dX10_bear_158 : decode cX10_bear 158 = .ok (.ireturn, 1) := by decide +kernel
theorem dX10_isStep_0 : decode cX10_isStep 0 = .ok (.iload_n 0, 1) := by decide +kernel
theorem dX10_isStep_1 : decode cX10_isStep 1 = .ok (.iconst 0, 1) := by decide +kernel
theorem dX10_isStep_2 : decode cX10_isStep 2 = .ok (.sipush 999, 3) := by decide +kernel
theorem dX10_isStep_5 : decode cX10_isStep 5 = .ok (.invokestatic 133, 3) := by decide +kernel
theorem dX10_isStep_8 : decode cX10_isStep 8 = .ok (.ireturn, 1) := by decide +kernel
theorem dX10_mayFit_0 : decode cX10_mayFit 0 = .ok (.aload_n 0, 1) := by decide +kernel
theorem dX10_mayFit_1 : decode cX10_mayFit 1 = .ok (.iload_n 1, 1) := by decide +kernel
theorem dX10_mayFit_2 : decode cX10_mayFit 2 = .ok (.invokevirtual 196, 3) := by decide +kernel
theorem dX10_mayFit_5 : decode cX10_mayFit 5 = .ok (.ifCond .eq 22, 3) := by decide +kernel
theorem dX10_mayFit_8 : decode cX10_mayFit 8 = .ok (.aload_n 0, 1) := by decide +kernel
theorem dX10_mayFit_9 : decode cX10_mayFit 9 = .ok (.iload_n 2, 1) := by decide +kernel
theorem dX10_mayFit_10 : decode cX10_mayFit 10 = .ok (.invokevirtual 163, 3) := by decide +kernel
theorem dX10_mayFit_13 : decode cX10_mayFit 13 = .ok (.ifCond .eq 14, 3) := by decide +kernel
theorem dX10_mayFit_16 : decode cX10_mayFit 16 = .ok (.iload_n 3, 1) := by decide +kernel
theorem dX10_mayFit_17 : decode cX10_mayFit 17 = .ok (.invokestatic 225, 3) := by decide +kernel
theorem dX10_mayFit_20 : decode cX10_mayFit 20 = .ok (.ifCond .eq 7, 3) := by decide +kernel
theorem dX10_mayFit_23 : decode cX10_mayFit 23 = .ok (.iconst 1, 1) := by decide +kernel
theorem dX10_mayFit_24 : decode cX10_mayFit 24 = .ok (.goto 4, 3) := by decide +kernel
theorem dX10_mayFit_27 : decode cX10_mayFit 27 = .ok (.iconst 0, 1) := by decide +kernel
theorem dX10_mayFit_28 : decode cX10_mayFit 28 = .ok (.ireturn, 1) := by decide +kernel
theorem dX10_sureAmong_0 : decode cX10_sureAmong 0 = .ok (.iconst 0, 1) := by decide +kernel
theorem dX10_sureAmong_1 : decode cX10_sureAmong 1 = .ok (.istore 4, 2) := by decide +kernel
theorem dX10_sureAmong_3 : decode cX10_sureAmong 3 = .ok (.iload_n 2, 1) := by decide +kernel
theorem dX10_sureAmong_4 : decode cX10_sureAmong 4 = .ok (.istore 5, 2) := by decide +kernel
theorem dX10_sureAmong_6 : decode cX10_sureAmong 6 = .ok (.iload 5, 2) := by decide +kernel
theorem dX10_sureAmong_8 : decode cX10_sureAmong 8 = .ok (.iload_n 3, 1) := by decide +kernel
theorem dX10_sureAmong_9 : decode cX10_sureAmong 9 = .ok (.if_icmp .ge 40, 3) := by decide +kernel
theorem dX10_sureAmong_12 : decode cX10_sureAmong 12 = .ok (.iload 5, 2) := by decide +kernel
theorem dX10_sureAmong_14 : decode cX10_sureAmong 14 = .ok (.aload_n 0, 1) := by decide +kernel
theorem dX10_sureAmong_15 : decode cX10_sureAmong 15 = .ok (.getfield 85, 3) := by decide +kernel
theorem dX10_sureAmong_18 : decode cX10_sureAmong 18 = .ok (.arraylength, 1) := by decide +kernel
theorem dX10_sureAmong_19 : decode cX10_sureAmong 19 = .ok (.if_icmp .ge 30, 3) := by decide +kernel
theorem dX10_sureAmong_22 : decode cX10_sureAmong 22 = .ok (.iload 4, 2) := by decide +kernel
theorem dX10_sureAmong_24 : decode cX10_sureAmong 24 = .ok (.aload_n 0, 1) := by decide +kernel
theorem dX10_sureAmong_25 : decode cX10_sureAmong 25 = .ok (.getfield 85, 3) := by decide +kernel
theorem dX10_sureAmong_28 : decode cX10_sureAmong 28 = .ok (.iload 5, 2) := by decide +kernel
theorem dX10_sureAmong_30 : decode cX10_sureAmong 30 = .ok (.iaload, 1) := by decide +kernel
theorem dX10_sureAmong_31 : decode cX10_sureAmong 31 = .ok (.iload_n 1, 1) := by decide +kernel
theorem dX10_sureAmong_32 : decode cX10_sureAmong 32 = .ok (.if_icmp .ne 7, 3) := by decide +kernel
theorem dX10_sureAmong_35 : decode cX10_sureAmong 35 = .ok (.iconst 1, 1) := by decide +kernel
theorem dX10_sureAmong_36 : decode cX10_sureAmong 36 = .ok (.goto 4, 3) := by decide +kernel
theorem dX10_sureAmong_39 : decode cX10_sureAmong 39 = .ok (.iconst 0, 1) := by decide +kernel
theorem dX10_sureAmong_40 : decode cX10_sureAmong 40 = .ok (.iadd, 1) := by decide +kernel
theorem dX10_sureAmong_41 : decode cX10_sureAmong 41 = .ok (.istore 4, 2) := by decide +kernel
theorem dX10_sureAmong_43 : decode cX10_sureAmong 43 = .ok (.iinc 5 1, 3) := by decide +kernel
theorem dX10_sureAmong_46 : decode cX10_sureAmong 46 = .ok (.goto (-40), 3) := by decide +kernel
theorem dX10_sureAmong_49 : decode cX10_sureAmong 49 = .ok (.iload 4, 2) := by decide +kernel
theorem dX10_sureAmong_51 : decode cX10_sureAmong 51 = .ok (.ireturn, 1) := by decide +kernel
theorem dX10_sureThread_0 : decode cX10_sureThread 0 = .ok (.aload_n 0, 1) := by decide +kernel
theorem dX10_sureThread_1 : decode cX10_sureThread 1 = .ok (.getfield 44, 3) := by decide +kernel
theorem dX10_sureThread_4 : decode cX10_sureThread 4 = .ok (.iload_n 1, 1) := by decide +kernel
theorem dX10_sureThread_5 : decode cX10_sureThread 5 = .ok (.iload_n 3, 1) := by decide +kernel
theorem dX10_sureThread_6 : decode cX10_sureThread 6 = .ok (.invokevirtual 306, 3) := by decide +kernel
theorem dX10_sureThread_9 : decode cX10_sureThread 9 = .ok (.ifCond .eq 5, 3) := by decide +kernel
theorem dX10_sureThread_12 : decode cX10_sureThread 12 = .ok (.iconst (-1), 1) := by decide +kernel
theorem dX10_sureThread_13 : decode cX10_sureThread 13 = .ok (.ireturn, 1) := by decide +kernel
theorem dX10_sureThread_14 : decode cX10_sureThread 14 = .ok (.aload_n 0, 1) := by decide +kernel
theorem dX10_sureThread_15 : decode cX10_sureThread 15 = .ok (.getfield 57, 3) := by decide +kernel
theorem dX10_sureThread_18 : decode cX10_sureThread 18 = .ok (.iload_n 1, 1) := by decide +kernel
theorem dX10_sureThread_19 : decode cX10_sureThread 19 = .ok (.iload_n 2, 1) := by decide +kernel
theorem dX10_sureThread_20 : decode cX10_sureThread 20 = .ok (.iload_n 3, 1) := by decide +kernel
theorem dX10_sureThread_21 : decode cX10_sureThread 21 = .ok (.invokevirtual 241, 3) := by decide +kernel
theorem dX10_sureThread_24 : decode cX10_sureThread 24 = .ok (.aload_n 0, 1) := by decide +kernel
theorem dX10_sureThread_25 : decode cX10_sureThread 25 = .ok (.getfield 57, 3) := by decide +kernel
theorem dX10_sureThread_28 : decode cX10_sureThread 28 = .ok (.getfield 248, 3) := by decide +kernel
theorem dX10_sureThread_31 : decode cX10_sureThread 31 = .ok (.iconst 1, 1) := by decide +kernel
theorem dX10_sureThread_32 : decode cX10_sureThread 32 = .ok (.if_icmp .ne 13, 3) := by decide +kernel
theorem dX10_sureThread_35 : decode cX10_sureThread 35 = .ok (.aload_n 0, 1) := by decide +kernel
theorem dX10_sureThread_36 : decode cX10_sureThread 36 = .ok (.getfield 57, 3) := by decide +kernel
theorem dX10_sureThread_39 : decode cX10_sureThread 39 = .ok (.getfield 251, 3) := by decide +kernel
theorem dX10_sureThread_42 : decode cX10_sureThread 42 = .ok (.goto 4, 3) := by decide +kernel
theorem dX10_sureThread_45 : decode cX10_sureThread 45 = .ok (.iconst (-1), 1) := by decide +kernel
theorem dX10_sureThread_46 : decode cX10_sureThread 46 = .ok (.ireturn, 1) := by decide +kernel
theorem dX1_cellBeside_0 : decode cX1_cellBeside 0 = .ok (.aload_n 0, 1) := by decide +kernel
theorem dX1_cellBeside_1 : decode cX1_cellBeside 1 = .ok (.iload_n 1, 1) := by decide +kernel
theorem dX1_cellBeside_2 : decode cX1_cellBeside 2 = .ok (.invokevirtual 77, 3) := by decide +kernel
theorem dX1_cellBeside_5 : decode cX1_cellBeside 5 = .ok (.iload_n 2, 1) := by decide +kernel
theorem dX1_cellBeside_6 : decode cX1_cellBeside 6 = .ok (.iadd, 1) := by decide +kernel
theorem dX1_cellBeside_7 : decode cX1_cellBeside 7 = .ok (.istore 4, 2) := by decide +kernel
theorem dX1_cellBeside_9 : decode cX1_cellBeside 9 = .ok (.aload_n 0, 1) := by decide +kernel
theorem dX1_cellBeside_10 : decode cX1_cellBeside 10 = .ok (.getfield 43, 3) := by decide +kernel
theorem dX1_cellBeside_13 : decode cX1_cellBeside 13 = .ok (.ifCond .le 12, 3) := by decide +kernel
theorem dX1_cellBeside_16 : decode cX1_cellBeside 16 = .ok (.iload_n 1, 1) := by decide +kernel
theorem dX1_cellBeside_17 : decode cX1_cellBeside 17 = .ok (.aload_n 0, 1) := by decide +kernel
theorem dX1_cellBeside_18 : decode cX1_cellBeside 18 = .ok (.getfield 43, 3) := by decide +kernel
theorem dX1_cellBeside_21 : decode cX1_cellBeside 21 = .ok (.idiv, 1) := by decide +kernel
theorem dX1_cellBeside_22 : decode cX1_cellBeside 22 = .ok (.goto 4, 3) := by decide +kernel
theorem dX1_cellBeside_25 : decode cX1_cellBeside 25 = .ok (.iconst 0, 1) := by decide +kernel
theorem dX1_cellBeside_26 : decode cX1_cellBeside 26 = .ok (.iload_n 3, 1) := by decide +kernel
theorem dX1_cellBeside_27 : decode cX1_cellBeside 27 = .ok (.iadd, 1) := by decide +kernel
theorem dX1_cellBeside_28 : decode cX1_cellBeside 28 = .ok (.istore 5, 2) := by decide +kernel
theorem dX1_cellBeside_30 : decode cX1_cellBeside 30 = .ok (.iload 4, 2) := by decide +kernel
theorem dX1_cellBeside_32 : decode cX1_cellBeside 32 = .ok (.iconst 0, 1) := by decide +kernel
theorem dX1_cellBeside_33 : decode cX1_cellBeside 33 = .ok (.aload_n 0, 1) := by decide +kernel
theorem dX1_cellBeside_34 : decode cX1_cellBeside 34 = .ok (.getfield 43, 3) := by decide +kernel
theorem dX1_cellBeside_37 : decode cX1_cellBeside 37 = .ok (.iconst 1, 1) := by decide +kernel
theorem dX1_cellBeside_38 : decode cX1_cellBeside 38 = .ok (.isub, 1) := by decide +kernel
theorem dX1_cellBeside_39 : decode cX1_cellBeside 39 = .ok (.invokestatic 81, 3) := by decide +kernel
theorem dX1_cellBeside_42 : decode cX1_cellBeside 42 = .ok (.ifCond .eq 22, 3) := by decide +kernel
theorem dX1_cellBeside_45 : decode cX1_cellBeside 45 = .ok (.iload 5, 2) := by decide +kernel
theorem dX1_cellBeside_47 : decode cX1_cellBeside 47 = .ok (.iconst 0, 1) := by decide +kernel
theorem dX1_cellBeside_48 : decode cX1_cellBeside 48 = .ok (.aload_n 0, 1) := by decide +kernel
theorem dX1_cellBeside_49 : decode cX1_cellBeside 49 = .ok (.getfield 47, 3) := by decide +kernel
theorem dX1_cellBeside_52 : decode cX1_cellBeside 52 = .ok (.iconst 1, 1) := by decide +kernel
theorem dX1_cellBeside_53 : decode cX1_cellBeside 53 = .ok (.isub, 1) := by decide +kernel
theorem dX1_cellBeside_54 : decode cX1_cellBeside 54 = .ok (.invokestatic 81, 3) := by decide +kernel
theorem dX1_cellBeside_57 : decode cX1_cellBeside 57 = .ok (.ifCond .eq 7, 3) := by decide +kernel
theorem dX1_cellBeside_60 : decode cX1_cellBeside 60 = .ok (.iconst 1, 1) := by decide +kernel
theorem dX1_cellBeside_61 : decode cX1_cellBeside 61 = .ok (.goto 4, 3) := by decide +kernel
theorem dX1_cellBeside_64 : decode cX1_cellBeside 64 = .ok (.iconst 0, 1) := by decide +kernel
theorem dX1_cellBeside_65 : decode cX1_cellBeside 65 = .ok (.istore 6, 2) := by decide +kernel
theorem dX1_cellBeside_67 : decode cX1_cellBeside 67 = .ok (.iload 6, 2) := by decide +kernel
theorem dX1_cellBeside_69 : decode cX1_cellBeside 69 = .ok (.ifCond .eq 24, 3) := by decide +kernel
theorem dX1_cellBeside_72 : decode cX1_cellBeside 72 = .ok (.iload_n 2, 1) := by decide +kernel
theorem dX1_cellBeside_73 : decode cX1_cellBeside 73 = .ok (.ifCond .ne 7, 3) := by decide +kernel
theorem dX1_cellBeside_76 : decode cX1_cellBeside 76 = .ok (.iload_n 3, 1) := by decide +kernel
theorem dX1_cellBeside_77 : decode cX1_cellBeside 77 = .ok (.ifCond .eq 16, 3) := by decide +kernel
theorem dX1_cellBeside_80 : decode cX1_cellBeside 80 = .ok (.iload 5, 2) := by decide +kernel
theorem dX1_cellBeside_82 : decode cX1_cellBeside 82 = .ok (.aload_n 0, 1) := by decide +kernel
theorem dX1_cellBeside_83 : decode cX1_cellBeside 83 = .ok (.getfield 43, 3) := by decide +kernel
theorem dX1_cellBeside_86 : decode cX1_cellBeside 86 = .ok (.imul, 1) := by decide +kernel
theorem dX1_cellBeside_87 : decode cX1_cellBeside 87 = .ok (.iload 4, 2) := by decide +kernel
theorem dX1_cellBeside_89 : decode cX1_cellBeside 89 = .ok (.iadd, 1) := by decide +kernel
theorem dX1_cellBeside_90 : decode cX1_cellBeside 90 = .ok (.goto 4, 3) := by decide +kernel
theorem dX1_cellBeside_93 : decode cX1_cellBeside 93 = .ok (.iconst (-1), 1) := by decide +kernel
theorem dX1_cellBeside_94 : decode cX1_cellBeside 94 = .ok (.ireturn, 1) := by decide +kernel
theorem dX10_beside_0 : decode cX10_beside 0 = .ok (.aload_n 0, 1) := by decide +kernel
theorem dX10_beside_1 : decode cX10_beside 1 = .ok (.iload_n 1, 1) := by decide +kernel
theorem dX10_beside_2 : decode cX10_beside 2 = .ok (.iload_n 2, 1) := by decide +kernel
theorem dX10_beside_3 : decode cX10_beside 3 = .ok (.iload_n 3, 1) := by decide +kernel
theorem dX10_beside_4 : decode cX10_beside 4 = .ok (.invokevirtual 238, 3) := by decide +kernel
theorem dX10_beside_7 : decode cX10_beside 7 = .ok (.ifCond .eq 13, 3) := by decide +kernel
theorem dX10_beside_10 : decode cX10_beside 10 = .ok (.iload 4, 2) := by decide +kernel
theorem dX10_beside_12 : decode cX10_beside 12 = .ok (.iconst 0, 1) := by decide +kernel
theorem dX10_beside_13 : decode cX10_beside 13 = .ok (.iconst 2, 1) := by decide +kernel
theorem dX10_beside_14 : decode cX10_beside 14 = .ok (.invokestatic 133, 3) := by decide +kernel
theorem dX10_beside_17 : decode cX10_beside 17 = .ok (.ifCond .ne 6, 3) := by decide +kernel
theorem dX10_beside_20 : decode cX10_beside 20 = .ok (.bipush (-2), 2) := by decide +kernel
theorem dX10_beside_22 : decode cX10_beside 22 = .ok (.ireturn, 1) := by decide +kernel
theorem dX10_beside_23 : decode cX10_beside 23 = .ok (.iconst 0, 1) := by decide +kernel
theorem dX10_beside_24 : decode cX10_beside 24 = .ok (.istore 5, 2) := by decide +kernel
theorem dX10_beside_26 : decode cX10_beside 26 = .ok (.iconst 0, 1) := by decide +kernel
theorem dX10_beside_27 : decode cX10_beside 27 = .ok (.istore 6, 2) := by decide +kernel
theorem dX10_beside_29 : decode cX10_beside 29 = .ok (.iload 6, 2) := by decide +kernel
theorem dX10_beside_31 : decode cX10_beside 31 = .ok (.bipush 9, 2) := by decide +kernel
theorem dX10_beside_33 : decode cX10_beside 33 = .ok (.if_icmp .ge 68, 3) := by decide +kernel
theorem dX10_beside_36 : decode cX10_beside 36 = .ok (.aload_n 0, 1) := by decide +kernel
theorem dX10_beside_37 : decode cX10_beside 37 = .ok (.getfield 24, 3) := by decide +kernel
theorem dX10_beside_40 : decode cX10_beside 40 = .ok (.getfield 110, 3) := by decide +kernel
theorem dX10_beside_43 : decode cX10_beside 43 = .ok (.iload_n 1, 1) := by decide +kernel
theorem dX10_beside_44 : decode cX10_beside 44 = .ok (.iload 6, 2) := by decide +kernel
theorem dX10_beside_46 : decode cX10_beside 46 = .ok (.iconst 3, 1) := by decide +kernel
theorem dX10_beside_47 : decode cX10_beside 47 = .ok (.irem, 1) := by decide +kernel
theorem dX10_beside_48 : decode cX10_beside 48 = .ok (.iconst 1, 1) := by decide +kernel
theorem dX10_beside_49 : decode cX10_beside 49 = .ok (.isub, 1) := by decide +kernel
theorem dX10_beside_50 : decode cX10_beside 50 = .ok (.iload 6, 2) := by decide +kernel
theorem dX10_beside_52 : decode cX10_beside 52 = .ok (.iconst 3, 1) := by decide +kernel
theorem dX10_beside_53 : decode cX10_beside 53 = .ok (.idiv, 1) := by decide +kernel
theorem dX10_beside_54 : decode cX10_beside 54 = .ok (.iconst 1, 1) := by decide +kernel
theorem dX10_beside_55 : decode cX10_beside 55 = .ok (.isub, 1) := by decide +kernel
theorem dX10_beside_56 : decode cX10_beside 56 = .ok (.invokevirtual 319, 3) := by decide +kernel
theorem dX10_beside_59 : decode cX10_beside 59 = .ok (.istore 7, 2) := by decide +kernel
theorem dX10_beside_61 : decode cX10_beside 61 = .ok (.iload 7, 2) := by decide +kernel
theorem dX10_beside_63 : decode cX10_beside 63 = .ok (.iconst (-1), 1) := by decide +kernel
theorem dX10_beside_64 : decode cX10_beside 64 = .ok (.if_icmp .eq 31, 3) := by decide +kernel
