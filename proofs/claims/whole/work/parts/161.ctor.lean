theorem wl2_X0_1 : (Cond.methodLink RX0 1 objectInit) ∈ ea_tbl := ea_inT 474 (by decide +kernel) rfl
theorem wl2_X7_1 : (Cond.methodLink RX7 1 objectInit) ∈ ea_tbl := ea_inT 127 (by decide +kernel) rfl
theorem wf2_X7_9 : (Cond.fieldLink RX7 9 "ClothBack$Tape" "bytes" "[B") ∈ ea_tbl := ea_inT 128 (by decide +kernel) rfl
theorem wl2_X8_3 : (Cond.methodLink RX8 3 objectInit) ∈ ea_tbl := ea_inT 317 (by decide +kernel) rfl
theorem wf2_X8_11 : (Cond.fieldLink RX8 11 "ClothBack$Telling" "lookParts" "[I") ∈ ea_tbl := ea_inT 318 (by decide +kernel) rfl
theorem wf2_X8_15 : (Cond.fieldLink RX8 15 "ClothBack$Telling" "triedParts" "[I") ∈ ea_tbl := ea_inT 319 (by decide +kernel) rfl
theorem wf2_X8_18 : (Cond.fieldLink RX8 18 "ClothBack$Telling" "rightParts" "[I") ∈ ea_tbl := ea_inT 320 (by decide +kernel) rfl
theorem wl2_X4_1 : (Cond.methodLink RX4 1 objectInit) ∈ ea_tbl := ea_inT 429 (by decide +kernel) rfl
theorem wf2_X4_11 : (Cond.fieldLink RX4 11 "ClothBack$Hairs" "shown" "[I") ∈ ea_tbl := ea_inT 430 (by decide +kernel) rfl
theorem wl2_X6_3 : (Cond.methodLink RX6 3 objectInit) ∈ ea_tbl := ea_inT 442 (by decide +kernel) rfl
theorem wf2_X6_9 : (Cond.fieldLink RX6 9 "ClothBack$Projector" "front" "[I") ∈ ea_tbl := ea_inT 443 (by decide +kernel) rfl
theorem wf2_X6_15 : (Cond.fieldLink RX6 15 "ClothBack$Projector" "aim" "[I") ∈ ea_tbl := ea_inT 445 (by decide +kernel) rfl
theorem wf2_X6_18 : (Cond.fieldLink RX6 18 "ClothBack$Projector" "light" "[I") ∈ ea_tbl := ea_inT 447 (by decide +kernel) rfl
theorem wf2_X6_21 : (Cond.fieldLink RX6 21 "ClothBack$Projector" "wanted" "[I") ∈ ea_tbl := ea_inT 451 (by decide +kernel) rfl
theorem wf2_X6_24 : (Cond.fieldLink RX6 24 "ClothBack$Projector" "sensed" "[I") ∈ ea_tbl := ea_inT 452 (by decide +kernel) rfl
theorem wl2_X9_3 : (Cond.methodLink RX9 3 objectInit) ∈ ea_tbl := ea_inT 250 (by decide +kernel) rfl
theorem wf2_X9_11 : (Cond.fieldLink RX9 11 "ClothBack$Yarn" "one" "[I") ∈ ea_tbl := ea_inT 260 (by decide +kernel) rfl
theorem wf2_X9_15 : (Cond.fieldLink RX9 15 "ClothBack$Yarn" "two" "[I") ∈ ea_tbl := ea_inT 262 (by decide +kernel) rfl
theorem wf2_X9_18 : (Cond.fieldLink RX9 18 "ClothBack$Yarn" "cloth" "LClothBack$Cloth;") ∈ ea_tbl := ea_inT 251 (by decide +kernel) rfl
theorem wl2_X5_1 : (Cond.methodLink RX5 1 objectInit) ∈ ea_tbl := ea_inT 360 (by decide +kernel) rfl
theorem wf2_X5_9 : (Cond.fieldLink RX5 9 "ClothBack$Palette" "taken" "[I") ∈ ea_tbl := ea_inT 362 (by decide +kernel) rfl
theorem wf2_X5_15 : (Cond.fieldLink RX5 15 "ClothBack$Palette" "yarn" "LClothBack$Yarn;") ∈ ea_tbl := ea_inT 361 (by decide +kernel) rfl
theorem wl2_X2_3 : (Cond.methodLink RX2 3 objectInit) ∈ ea_tbl := ea_inT 278 (by decide +kernel) rfl
theorem wf2_X2_9 : (Cond.fieldLink RX2 9 "ClothBack$ClothReader" "faultKind" "I") ∈ ea_tbl := ea_inT 279 (by decide +kernel) rfl
theorem wf2_X2_15 : (Cond.fieldLink RX2 15 "ClothBack$ClothReader" "faultPlace" "I") ∈ ea_tbl := ea_inT 281 (by decide +kernel) rfl
theorem wf2_X2_18 : (Cond.fieldLink RX2 18 "ClothBack$ClothReader" "tape" "LClothBack$Tape;") ∈ ea_tbl := ea_inT 283 (by decide +kernel) rfl
theorem wf2_X2_22 : (Cond.fieldLink RX2 22 "ClothBack$ClothReader" "into" "LClothBack$Cloth;") ∈ ea_tbl := ea_inT 284 (by decide +kernel) rfl
theorem wl2_X3_5 : (Cond.methodLink RX3 5 objectInit) ∈ ea_tbl := ea_inT 354 (by decide +kernel) rfl
theorem wf2_X3_13 : (Cond.fieldLink RX3 13 "ClothBack$Fit" "years" "[I") ∈ ea_tbl := ea_inT 373 (by decide +kernel) rfl
theorem wf2_X3_19 : (Cond.fieldLink RX3 19 "ClothBack$Fit" "spanLeast" "[I") ∈ ea_tbl := ea_inT 376 (by decide +kernel) rfl
theorem wf2_X3_22 : (Cond.fieldLink RX3 22 "ClothBack$Fit" "spanMost" "[I") ∈ ea_tbl := ea_inT 378 (by decide +kernel) rfl
theorem wf2_X3_25 : (Cond.fieldLink RX3 25 "ClothBack$Fit" "sightSide" "[I") ∈ ea_tbl := ea_inT 389 (by decide +kernel) rfl
theorem wf2_X3_28 : (Cond.fieldLink RX3 28 "ClothBack$Fit" "sightLamp" "[I") ∈ ea_tbl := ea_inT 390 (by decide +kernel) rfl
theorem wf2_X3_31 : (Cond.fieldLink RX3 31 "ClothBack$Fit" "takenLeast" "[I") ∈ ea_tbl := ea_inT 391 (by decide +kernel) rfl
theorem wf2_X3_34 : (Cond.fieldLink RX3 34 "ClothBack$Fit" "takenMost" "[I") ∈ ea_tbl := ea_inT 392 (by decide +kernel) rfl
theorem wf2_X3_37 : (Cond.fieldLink RX3 37 "ClothBack$Fit" "yarn" "LClothBack$Yarn;") ∈ ea_tbl := ea_inT 368 (by decide +kernel) rfl
theorem wf2_X3_41 : (Cond.fieldLink RX3 41 "ClothBack$Fit" "telling" "LClothBack$Telling;") ∈ ea_tbl := ea_inT 370 (by decide +kernel) rfl
theorem wg_X3_45 : (Cond.classLink RX3 45 RX5) ∈ ea_tbl := ea_inT 355 (by decide +kernel) rfl
theorem wI_5 : (Cond.instantiable RX5 2) ∈ ea_tbl := ea_inT 356 (by decide +kernel) rfl
theorem wi2_RX5 : (Cond.initialized RX5) ∈ ea_tbl := ea_inT 102 (by decide +kernel) rfl
theorem wc2_X5_init : (Cond.code yX5_init cX5_init 2 none) ∈ ea_tbl := ea_inT 359 (by decide +kernel) rfl
theorem wv2_X5_init : (Cond.instanceMethod yX5_init) ∈ ea_tbl := ea_inT 358 (by decide +kernel) rfl
theorem wl2_X3_47 : (Cond.methodLink RX3 47 yX5_init) ∈ ea_tbl := ea_inT 357 (by decide +kernel) rfl
theorem wf2_X3_50 : (Cond.fieldLink RX3 50 "ClothBack$Fit" "palette" "LClothBack$Palette;") ∈ ea_tbl := ea_inT 371 (by decide +kernel) rfl
theorem dX0_init_0 : decode cX0_init 0 = .ok (.aload_n 0, 1) := by decide +kernel
theorem dX0_init_1 : decode cX0_init 1 = .ok (.invokespecial 1, 3) := by decide +kernel
theorem dX0_init_4 : decode cX0_init 4 = .ok (.return_, 1) := by decide +kernel
theorem dX7_init_0 : decode cX7_init 0 = .ok (.aload_n 0, 1) := by decide +kernel
theorem dX7_init_1 : decode cX7_init 1 = .ok (.invokespecial 1, 3) := by decide +kernel
theorem dX7_init_4 : decode cX7_init 4 = .ok (.aload_n 0, 1) := by decide +kernel
theorem dX7_init_5 : decode cX7_init 5 = .ok (.sipush 900, 3) := by decide +kernel
theorem dX7_init_8 : decode cX7_init 8 = .ok (.newarray .byte, 2) := by decide +kernel
theorem dX7_init_10 : decode cX7_init 10 = .ok (.putfield 9, 3) := by decide +kernel
theorem dX7_init_13 : decode cX7_init 13 = .ok (.return_, 1) := by decide +kernel
theorem dX8_init_0 : decode cX8_init 0 = .ok (.aload_n 0, 1) := by decide +kernel
theorem dX8_init_1 : decode cX8_init 1 = .ok (.invokespecial 3, 3) := by decide +kernel
theorem dX8_init_4 : decode cX8_init 4 = .ok (.aload_n 0, 1) := by decide +kernel
theorem dX8_init_5 : decode cX8_init 5 = .ok (.sipush 540, 3) := by decide +kernel
theorem dX8_init_8 : decode cX8_init 8 = .ok (.newarray .int, 2) := by decide +kernel
theorem dX8_init_10 : decode cX8_init 10 = .ok (.putfield 11, 3) := by decide +kernel
theorem dX8_init_13 : decode cX8_init 13 = .ok (.aload_n 0, 1) := by decide +kernel
theorem dX8_init_14 : decode cX8_init 14 = .ok (.bipush 120, 2) := by decide +kernel
theorem dX8_init_16 : decode cX8_init 16 = .ok (.newarray .int, 2) := by decide +kernel
theorem dX8_init_18 : decode cX8_init 18 = .ok (.putfield 15, 3) := by decide +kernel
theorem dX8_init_21 : decode cX8_init 21 = .ok (.aload_n 0, 1) := by decide +kernel
theorem dX8_init_22 : decode cX8_init 22 = .ok (.bipush 120, 2) := by decide +kernel
theorem dX8_init_24 : decode cX8_init 24 = .ok (.newarray .int, 2) := by decide +kernel
theorem dX8_init_26 : decode cX8_init 26 = .ok (.putfield 18, 3) := by decide +kernel
theorem dX8_init_29 : decode cX8_init 29 = .ok (.return_, 1) := by decide +kernel
theorem dX4_init_0 : decode cX4_init 0 = .ok (.aload_n 0, 1) := by decide +kernel
theorem dX4_init_1 : decode cX4_init 1 = .ok (.invokespecial 1, 3) := by decide +kernel
theorem dX4_init_4 : decode cX4_init 4 = .ok (.aload_n 0, 1) := by decide +kernel
theorem dX4_init_5 : decode cX4_init 5 = .ok (.sipush 3420, 3) := by decide +kernel
theorem dX4_init_8 : decode cX4_init 8 = .ok (.newarray .int, 2) := by decide +kernel
theorem dX4_init_10 : decode cX4_init 10 = .ok (.putfield 11, 3) := by decide +kernel
theorem dX4_init_13 : decode cX4_init 13 = .ok (.return_, 1) := by decide +kernel
theorem dX6_init_0 : decode cX6_init 0 = .ok (.aload_n 0, 1) := by decide +kernel
theorem dX6_init_1 : decode cX6_init 1 = .ok (.invokespecial 3, 3) := by decide +kernel
theorem dX6_init_4 : decode cX6_init 4 = .ok (.aload_n 0, 1) := by decide +kernel
theorem dX6_init_5 : decode cX6_init 5 = .ok (.iconst 3, 1) := by decide +kernel
theorem dX6_init_6 : decode cX6_init 6 = .ok (.newarray .int, 2) := by decide +kernel
theorem dX6_init_8 : decode cX6_init 8 = .ok (.putfield 9, 3) := by decide +kernel
theorem dX6_init_11 : decode cX6_init 11 = .ok (.aload_n 0, 1) := by decide +kernel
theorem dX6_init_12 : decode cX6_init 12 = .ok (.iconst 3, 1) := by decide +kernel
theorem dX6_init_13 : decode cX6_init 13 = .ok (.newarray .int, 2) := by decide +kernel
theorem dX6_init_15 : decode cX6_init 15 = .ok (.putfield 15, 3) := by decide +kernel
theorem dX6_init_18 : decode cX6_init 18 = .ok (.aload_n 0, 1) := by decide +kernel
theorem dX6_init_19 : decode cX6_init 19 = .ok (.iconst 3, 1) := by decide +kernel
theorem dX6_init_20 : decode cX6_init 20 = .ok (.newarray .int, 2) := by decide +kernel
theorem dX6_init_22 : decode cX6_init 22 = .ok (.putfield 18, 3) := by decide +kernel
theorem dX6_init_25 : decode cX6_init 25 = .ok (.aload_n 0, 1) := by decide +kernel
theorem dX6_init_26 : decode cX6_init 26 = .ok (.iconst 3, 1) := by decide +kernel
theorem dX6_init_27 : decode cX6_init 27 = .ok (.newarray .int, 2) := by decide +kernel
theorem dX6_init_29 : decode cX6_init 29 = .ok (.putfield 21, 3) := by decide +kernel
theorem dX6_init_32 : decode cX6_init 32 = .ok (.aload_n 0, 1) := by decide +kernel
theorem dX6_init_33 : decode cX6_init 33 = .ok (.sipush 189, 3) := by decide +kernel
theorem dX6_init_36 : decode cX6_init 36 = .ok (.newarray .int, 2) := by decide +kernel
theorem dX6_init_38 : decode cX6_init 38 = .ok (.putfield 24, 3) := by decide +kernel
theorem dX6_init_41 : decode cX6_init 41 = .ok (.return_, 1) := by decide +kernel
theorem dX9_init_0 : decode cX9_init 0 = .ok (.aload_n 0, 1) := by decide +kernel
theorem dX9_init_1 : decode cX9_init 1 = .ok (.invokespecial 3, 3) := by decide +kernel
theorem dX9_init_4 : decode cX9_init 4 = .ok (.aload_n 0, 1) := by decide +kernel
theorem dX9_init_5 : decode cX9_init 5 = .ok (.sipush 855, 3) := by decide +kernel
theorem dX9_init_8 : decode cX9_init 8 = .ok (.newarray .int, 2) := by decide +kernel
theorem dX9_init_10 : decode cX9_init 10 = .ok (.putfield 11, 3) := by decide +kernel
theorem dX9_init_13 : decode cX9_init 13 = .ok (.aload_n 0, 1) := by decide +kernel
theorem dX9_init_14 : decode cX9_init 14 = .ok (.sipush 855, 3) := by decide +kernel
theorem dX9_init_17 : decode cX9_init 17 = .ok (.newarray .int, 2) := by decide +kernel
theorem dX9_init_19 : decode cX9_init 19 = .ok (.putfield 15, 3) := by decide +kernel
theorem dX9_init_22 : decode cX9_init 22 = .ok (.aload_n 0, 1) := by decide +kernel
theorem dX9_init_23 : decode cX9_init 23 = .ok (.aload_n 1, 1) := by decide +kernel
theorem dX9_init_24 : decode cX9_init 24 = .ok (.putfield 18, 3) := by decide +kernel
theorem dX9_init_27 : decode cX9_init 27 = .ok (.return_, 1) := by decide +kernel
theorem dX5_init_0 : decode cX5_init 0 = .ok (.aload_n 0, 1) := by decide +kernel
theorem dX5_init_1 : decode cX5_init 1 = .ok (.invokespecial 1, 3) := by decide +kernel
theorem dX5_init_4 : decode cX5_init 4 = .ok (.aload_n 0, 1) := by decide +kernel
theorem dX5_init_5 : decode cX5_init 5 = .ok (.sipush 138, 3) := by decide +kernel
theorem dX5_init_8 : decode cX5_init 8 = .ok (.newarray .int, 2) := by decide +kernel
theorem dX5_init_10 : decode cX5_init 10 = .ok (.putfield 9, 3) := by decide +kernel
theorem dX5_init_13 : decode cX5_init 13 = .ok (.aload_n 0, 1) := by decide +kernel
theorem dX5_init_14 : decode cX5_init 14 = .ok (.aload_n 1, 1) := by decide +kernel
theorem dX5_init_15 : decode cX5_init 15 = .ok (.putfield 15, 3) := by decide +kernel
theorem dX5_init_18 : decode cX5_init 18 = .ok (.return_, 1) := by decide +kernel
theorem dX2_init_0 : decode cX2_init 0 = .ok (.aload_n 0, 1) := by decide +kernel
theorem dX2_init_1 : decode cX2_init 1 = .ok (.invokespecial 3, 3) := by decide +kernel
theorem dX2_init_4 : decode cX2_init 4 = .ok (.aload_n 0, 1) := by decide +kernel
theorem dX2_init_5 : decode cX2_init 5 = .ok (.iconst 0, 1) := by decide +kernel
theorem dX2_init_6 : decode cX2_init 6 = .ok (.putfield 9, 3) := by decide +kernel
theorem dX2_init_9 : decode cX2_init 9 = .ok (.aload_n 0, 1) := by decide +kernel
theorem dX2_init_10 : decode cX2_init 10 = .ok (.iconst (-1), 1) := by decide +kernel
theorem dX2_init_11 : decode cX2_init 11 = .ok (.putfield 15, 3) := by decide +kernel
theorem dX2_init_14 : decode cX2_init 14 = .ok (.aload_n 0, 1) := by decide +kernel
theorem dX2_init_15 : decode cX2_init 15 = .ok (.aload_n 1, 1) := by decide +kernel
theorem dX2_init_16 : decode cX2_init 16 = .ok (.putfield 18, 3) := by decide +kernel
theorem dX2_init_19 : decode cX2_init 19 = .ok (.aload_n 0, 1) := by decide +kernel
theorem dX2_init_20 : decode cX2_init 20 = .ok (.aload_n 2, 1) := by decide +kernel
theorem dX2_init_21 : decode cX2_init 21 = .ok (.putfield 22, 3) := by decide +kernel
theorem dX2_init_24 : decode cX2_init 24 = .ok (.return_, 1) := by decide +kernel
theorem dX3_init_0 : decode cX3_init 0 = .ok (.aload_n 0, 1) := by decide +kernel
theorem dX3_init_1 : decode cX3_init 1 = .ok (.invokespecial 5, 3) := by decide +kernel
theorem dX3_init_4 : decode cX3_init 4 = .ok (.aload_n 0, 1) := by decide +kernel
theorem dX3_init_5 : decode cX3_init 5 = .ok (.sipush 855, 3) := by decide +kernel
theorem dX3_init_8 : decode cX3_init 8 = .ok (.newarray .int, 2) := by decide +kernel
theorem dX3_init_10 : decode cX3_init 10 = .ok (.putfield 13, 3) := by decide +kernel
theorem dX3_init_13 : decode cX3_init 13 = .ok (.aload_n 0, 1) := by decide +kernel
theorem dX3_init_14 : decode cX3_init 14 = .ok (.iconst 3, 1) := by decide +kernel
theorem dX3_init_15 : decode cX3_init 15 = .ok (.newarray .int, 2) := by decide +kernel
theorem dX3_init_17 : decode cX3_init 17 = .ok (.putfield 19, 3) := by decide +kernel
theorem dX3_init_20 : decode cX3_init 20 = .ok (.aload_n 0, 1) := by decide +kernel
theorem dX3_init_21 : decode cX3_init 21 = .ok (.iconst 3, 1) := by decide +kernel
theorem dX3_init_22 : decode cX3_init 22 = .ok (.newarray .int, 2) := by decide +kernel
theorem dX3_init_24 : decode cX3_init 24 = .ok (.putfield 22, 3) := by decide +kernel
theorem dX3_init_27 : decode cX3_init 27 = .ok (.aload_n 0, 1) := by decide +kernel
theorem dX3_init_28 : decode cX3_init 28 = .ok (.bipush 22, 2) := by decide +kernel
theorem dX3_init_30 : decode cX3_init 30 = .ok (.newarray .int, 2) := by decide +kernel
theorem dX3_init_32 : decode cX3_init 32 = .ok (.putfield 25, 3) := by decide +kernel
theorem dX3_init_35 : decode cX3_init 35 = .ok (.aload_n 0, 1) := by decide +kernel
theorem dX3_init_36 : decode cX3_init 36 = .ok (.bipush 22, 2) := by decide +kernel
theorem dX3_init_38 : decode cX3_init 38 = .ok (.newarray .int, 2) := by decide +kernel
theorem dX3_init_40 : decode cX3_init 40 = .ok (.putfield 28, 3) := by decide +kernel
theorem dX3_init_43 : decode cX3_init 43 = .ok (.aload_n 0, 1) := by decide +kernel
theorem dX3_init_44 : decode cX3_init 44 = .ok (.bipush 66, 2) := by decide +kernel
theorem dX3_init_46 : decode cX3_init 46 = .ok (.newarray .int, 2) := by decide +kernel
theorem dX3_init_48 : decode cX3_init 48 = .ok (.putfield 31, 3) := by decide +kernel
theorem dX3_init_51 : decode cX3_init 51 = .ok (.aload_n 0, 1) := by decide +kernel
theorem dX3_init_52 : decode cX3_init 52 = .ok (.bipush 66, 2) := by decide +kernel
theorem dX3_init_54 : decode cX3_init 54 = .ok (.newarray .int, 2) := by decide +kernel
theorem dX3_init_56 : decode cX3_init 56 = .ok (.putfield 34, 3) := by decide +kernel
theorem dX3_init_59 : decode cX3_init 59 = .ok (.aload_n 0, 1) := by decide +kernel
theorem dX3_init_60 : decode cX3_init 60 = .ok (.aload_n 1, 1) := by decide +kernel
theorem dX3_init_61 : decode cX3_init 61 = .ok (.putfield 37, 3) := by decide +kernel
theorem dX3_init_64 : decode cX3_init 64 = .ok (.aload_n 0, 1) := by decide +kernel
theorem dX3_init_65 : decode cX3_init 65 = .ok (.aload_n 2, 1) := by decide +kernel
theorem dX3_init_66 : decode cX3_init 66 = .ok (.putfield 41, 3) := by decide +kernel
theorem dX3_init_69 : decode cX3_init 69 = .ok (.aload_n 0, 1) := by decide +kernel
theorem dX3_init_70 : decode cX3_init 70 = .ok (.new 45, 3) := by decide +kernel
theorem dX3_init_73 : decode cX3_init 73 = .ok (.dup, 1) := by decide +kernel
theorem dX3_init_74 : decode cX3_init 74 = .ok (.aload_n 1, 1) := by decide +kernel
theorem dX3_init_75 : decode cX3_init 75 = .ok (.invokespecial 47, 3) := by decide +kernel
theorem dX3_init_78 : decode cX3_init 78 = .ok (.putfield 50, 3) := by decide +kernel
theorem dX3_init_81 : decode cX3_init 81 = .ok (.return_, 1) := by decide +kernel
set_option maxHeartbeats 8000000 in
set_option maxRecDepth 100000 in
theorem nX0_init {l : Launch} {E : eE} {h0 sz : Nat} : eb_M l yX0_init cX0_init 1 1 0 0 12 E [.ref h0] [(h0, .inr (0, [.long 0]))] sz (fun u => [(h0, .inr (0, [.long 0]))]) := by
  refine eb_go (by decide) (Nat.le_of_ble_eq_true rfl) rfl ?_
  intro p e s m below meth c ls hsz C hP hK hD hF hN hl
  have hA : ∀ q : Nat, s.heap.size ≤ q → va_A [(h0, .inr (0, [.long 0]))] sz q := fun q h => Or.inr (by rw [← hsz]; exact h)
  have hS : va_S (va_A [(h0, .inr (0, [.long 0]))] sz) s.heap s.heap [] := va_S.rf
  have hl : lv_has ls 1 [(0, .ref h0)] := hl
  refine lv_aload_n C.1.1 C.1.2.1 dX0_init_0 rfl (lv_at hl 0 rfl) ?_
  refine eb_obj C wl2_X0_1 hl.1 dX0_init_1 (Nat.le_of_ble_eq_true rfl) (Nat.le_of_ble_eq_true rfl) ?_
  exact eb_ret (eb_ad [h0]) C (hP.sub [0] rfl) hK (hD.sub [0] (by decide) rfl) hS dX0_init_4
set_option maxHeartbeats 8000000 in
set_option maxRecDepth 100000 in
theorem nX7_init {l : Launch} {E : eE} {h0 sz : Nat} : eb_M l yX7_init cX7_init 1 1 1 900 12 E [.ref h0] [(h0, .inr (7, [.null, .int 0]))] sz (fun u => [(h0, .inr (7, [.ref (u 1), .int 0])), ((u 1), .inl (E.2.1 2, 900, .inl (fun _ => 0)))]) := by
  refine eb_go (by decide) (Nat.le_of_ble_eq_true rfl) rfl ?_
  intro p e s m below meth c ls hsz C hP hK hD hF hN hl
  have hA : ∀ q : Nat, s.heap.size ≤ q → va_A [(h0, .inr (7, [.null, .int 0]))] sz q := fun q h => Or.inr (by rw [← hsz]; exact h)
  have hS : va_S (va_A [(h0, .inr (7, [.null, .int 0]))] sz) s.heap s.heap [] := va_S.rf
  have hl : lv_has ls 1 [(0, .ref h0)] := hl
  refine lv_aload_n C.1.1 C.1.2.1 dX7_init_0 rfl (lv_at hl 0 rfl) ?_
  refine eb_obj C wl2_X7_1 hl.1 dX7_init_1 (Nat.le_of_ble_eq_true rfl) (Nat.le_of_ble_eq_true rfl) ?_
  refine lv_aload_n C.1.1 C.1.2.1 dX7_init_4 rfl (lv_at hl 0 rfl) ?_
  refine lv_sipush (v := 900) C.1.1 C.1.2.1 dX7_init_5 (by decide) ?_
  refine eb_newa (atype := .byte) (kt := 2) (ty := .byte) (N' := 900) (a0 := (900, .inl (fun _ => 0))) C.1 wa_byte rfl rfl (fun _ h => h) hK hP hD hS hA (fun _ => rfl) (by decide) (by decide) (by decide) (Nat.le_of_ble_eq_true rfl) (Nat.le_of_ble_eq_true rfl) dX7_init_8 (fun q1 H hP hD hS => ?_)
  have hP : va_P E.2.2.1 ea_cl [(h0, .inr (7, [.null, .int 0])), (q1, .inl (E.2.1 2, 900, .inl (fun _ => 0)))] H := hP
  have hD : va_D (va_A [(h0, .inr (7, [.null, .int 0]))] sz) [(h0, .inr (7, [.null, .int 0])), (q1, .inl (E.2.1 2, 900, .inl (fun _ => 0)))] := hD
  refine W.widen (k := 1) (n := 900) (by decide) (by decide) ?_
  refine va_putF (v := .ref q1) (ty := .array .byte) C.1.1 C.1.2.1 C.1.2.2.2.2.1 ea_ix7 tyX7 tyX7_ok nmX7 C.1.2.2.2.1 hK hP hD hS 0 rfl rfl 0 (by decide) (C.1.2.2.2.2.1 _ wf2_X7_9) (fun _ h9 => h9) rfl C.2 rfl (by decide +kernel) rfl rfl (Nat.le_of_ble_eq_true rfl) dX7_init_10 (fun H locs hP hD hS => ?_)
  have hP : va_P E.2.2.1 ea_cl [(h0, .inr (7, [.ref q1, .int 0])), (q1, .inl (E.2.1 2, 900, .inl (fun _ => 0)))] H := hP
  have hD : va_D (va_A [(h0, .inr (7, [.null, .int 0]))] sz) [(h0, .inr (7, [.ref q1, .int 0])), (q1, .inl (E.2.1 2, 900, .inl (fun _ => 0)))] := hD
  exact eb_ret (eb_ad [h0, q1]) C (hP.sub [0, 1] rfl) hK (hD.sub [0, 1] (by decide) rfl) hS dX7_init_13
set_option maxHeartbeats 8000000 in
set_option maxRecDepth 100000 in
theorem nX8_init {l : Launch} {E : eE} {h0 sz : Nat} : eb_M l yX8_init cX8_init 1 1 3 780 12 E [.ref h0] [(h0, .inr (8, [.null, .null, .null, .int 0, .int 0, .int 0, .int 0, .int 0]))] sz (fun u => [(h0, .inr (8, [.ref (u 1), .ref (u 2), .ref (u 3), .int 0, .int 0, .int 0, .int 0, .int 0])), ((u 1), .inl (E.2.1 0, 540, .inl (fun _ => 0))), ((u 2), .inl (E.2.1 0, 120, .inl (fun _ => 0))), ((u 3), .inl (E.2.1 0, 120, .inl (fun _ => 0)))]) := by
  refine eb_go (by decide) (Nat.le_of_ble_eq_true rfl) rfl ?_
  intro p e s m below meth c ls hsz C hP hK hD hF hN hl
  have hA : ∀ q : Nat, s.heap.size ≤ q → va_A [(h0, .inr (8, [.null, .null, .null, .int 0, .int 0, .int 0, .int 0, .int 0]))] sz q := fun q h => Or.inr (by rw [← hsz]; exact h)
  have hS : va_S (va_A [(h0, .inr (8, [.null, .null, .null, .int 0, .int 0, .int 0, .int 0, .int 0]))] sz) s.heap s.heap [] := va_S.rf
  have hl : lv_has ls 1 [(0, .ref h0)] := hl
  refine lv_aload_n C.1.1 C.1.2.1 dX8_init_0 rfl (lv_at hl 0 rfl) ?_
  refine eb_obj C wl2_X8_3 hl.1 dX8_init_1 (Nat.le_of_ble_eq_true rfl) (Nat.le_of_ble_eq_true rfl) ?_
  refine lv_aload_n C.1.1 C.1.2.1 dX8_init_4 rfl (lv_at hl 0 rfl) ?_
  refine lv_sipush (v := 540) C.1.1 C.1.2.1 dX8_init_5 (by decide) ?_
  refine eb_newa (atype := .int) (kt := 0) (ty := .int) (N' := 540) (a0 := (540, .inl (fun _ => 0))) C.1 wa_int rfl rfl (fun _ h => h) hK hP hD hS hA (fun _ => rfl) (by decide) (by decide) (by decide) (Nat.le_of_ble_eq_true rfl) (Nat.le_of_ble_eq_true rfl) dX8_init_8 (fun q1 H hP hD hS => ?_)
  have hP : va_P E.2.2.1 ea_cl [(h0, .inr (8, [.null, .null, .null, .int 0, .int 0, .int 0, .int 0, .int 0])), (q1, .inl (E.2.1 0, 540, .inl (fun _ => 0)))] H := hP
  have hD : va_D (va_A [(h0, .inr (8, [.null, .null, .null, .int 0, .int 0, .int 0, .int 0, .int 0]))] sz) [(h0, .inr (8, [.null, .null, .null, .int 0, .int 0, .int 0, .int 0, .int 0])), (q1, .inl (E.2.1 0, 540, .inl (fun _ => 0)))] := hD
  refine W.widen (k := 1) (n := 540) (by decide) (by decide) ?_
  refine va_putF (v := .ref q1) (ty := .array .int) C.1.1 C.1.2.1 C.1.2.2.2.2.1 ea_ix8 tyX8 tyX8_ok nmX8 C.1.2.2.2.1 hK hP hD hS 0 rfl rfl 0 (by decide) (C.1.2.2.2.2.1 _ wf2_X8_11) (fun _ h9 => h9) rfl C.2 rfl (by decide +kernel) rfl rfl (Nat.le_of_ble_eq_true rfl) dX8_init_10 (fun H locs hP hD hS => ?_)
  have hP : va_P E.2.2.1 ea_cl [(h0, .inr (8, [.ref q1, .null, .null, .int 0, .int 0, .int 0, .int 0, .int 0])), (q1, .inl (E.2.1 0, 540, .inl (fun _ => 0)))] H := hP
  have hD : va_D (va_A [(h0, .inr (8, [.null, .null, .null, .int 0, .int 0, .int 0, .int 0, .int 0]))] sz) [(h0, .inr (8, [.ref q1, .null, .null, .int 0, .int 0, .int 0, .int 0, .int 0])), (q1, .inl (E.2.1 0, 540, .inl (fun _ => 0)))] := hD
  refine lv_aload_n C.1.1 C.1.2.1 dX8_init_13 rfl (lv_at hl 0 rfl) ?_
  refine lv_bipush (v := 120) C.1.1 C.1.2.1 dX8_init_14 (by decide) ?_
  refine eb_newa (atype := .int) (kt := 0) (ty := .int) (N' := 120) (a0 := (120, .inl (fun _ => 0))) C.1 wa_int rfl rfl (fun _ h => h) hK hP hD hS hA (fun _ => rfl) (by decide) (by decide) (by decide) (Nat.le_of_ble_eq_true rfl) (Nat.le_of_ble_eq_true rfl) dX8_init_16 (fun q2 H hP hD hS => ?_)
  have hP : va_P E.2.2.1 ea_cl [(h0, .inr (8, [.ref q1, .null, .null, .int 0, .int 0, .int 0, .int 0, .int 0])), (q1, .inl (E.2.1 0, 540, .inl (fun _ => 0))), (q2, .inl (E.2.1 0, 120, .inl (fun _ => 0)))] H := hP
  have hD : va_D (va_A [(h0, .inr (8, [.null, .null, .null, .int 0, .int 0, .int 0, .int 0, .int 0]))] sz) [(h0, .inr (8, [.ref q1, .null, .null, .int 0, .int 0, .int 0, .int 0, .int 0])), (q1, .inl (E.2.1 0, 540, .inl (fun _ => 0))), (q2, .inl (E.2.1 0, 120, .inl (fun _ => 0)))] := hD
  refine W.widen (k := 2) (n := 660) (by decide) (by decide) ?_
  refine va_putF (v := .ref q2) (ty := .array .int) C.1.1 C.1.2.1 C.1.2.2.2.2.1 ea_ix8 tyX8 tyX8_ok nmX8 C.1.2.2.2.1 hK hP hD hS 0 rfl rfl 1 (by decide) (C.1.2.2.2.2.1 _ wf2_X8_15) (fun _ h9 => h9) rfl C.2 rfl (by decide +kernel) rfl rfl (Nat.le_of_ble_eq_true rfl) dX8_init_18 (fun H locs hP hD hS => ?_)
  have hP : va_P E.2.2.1 ea_cl [(h0, .inr (8, [.ref q1, .ref q2, .null, .int 0, .int 0, .int 0, .int 0, .int 0])), (q1, .inl (E.2.1 0, 540, .inl (fun _ => 0))), (q2, .inl (E.2.1 0, 120, .inl (fun _ => 0)))] H := hP
  have hD : va_D (va_A [(h0, .inr (8, [.null, .null, .null, .int 0, .int 0, .int 0, .int 0, .int 0]))] sz) [(h0, .inr (8, [.ref q1, .ref q2, .null, .int 0, .int 0, .int 0, .int 0, .int 0])), (q1, .inl (E.2.1 0, 540, .inl (fun _ => 0))), (q2, .inl (E.2.1 0, 120, .inl (fun _ => 0)))] := hD
  refine lv_aload_n C.1.1 C.1.2.1 dX8_init_21 rfl (lv_at hl 0 rfl) ?_
  refine lv_bipush (v := 120) C.1.1 C.1.2.1 dX8_init_22 (by decide) ?_
  refine eb_newa (atype := .int) (kt := 0) (ty := .int) (N' := 120) (a0 := (120, .inl (fun _ => 0))) C.1 wa_int rfl rfl (fun _ h => h) hK hP hD hS hA (fun _ => rfl) (by decide) (by decide) (by decide) (Nat.le_of_ble_eq_true rfl) (Nat.le_of_ble_eq_true rfl) dX8_init_24 (fun q3 H hP hD hS => ?_)
  have hP : va_P E.2.2.1 ea_cl [(h0, .inr (8, [.ref q1, .ref q2, .null, .int 0, .int 0, .int 0, .int 0, .int 0])), (q1, .inl (E.2.1 0, 540, .inl (fun _ => 0))), (q2, .inl (E.2.1 0, 120, .inl (fun _ => 0))), (q3, .inl (E.2.1 0, 120, .inl (fun _ => 0)))] H := hP
  have hD : va_D (va_A [(h0, .inr (8, [.null, .null, .null, .int 0, .int 0, .int 0, .int 0, .int 0]))] sz) [(h0, .inr (8, [.ref q1, .ref q2, .null, .int 0, .int 0, .int 0, .int 0, .int 0])), (q1, .inl (E.2.1 0, 540, .inl (fun _ => 0))), (q2, .inl (E.2.1 0, 120, .inl (fun _ => 0))), (q3, .inl (E.2.1 0, 120, .inl (fun _ => 0)))] := hD
  refine W.widen (k := 3) (n := 780) (by decide) (by decide) ?_
  refine va_putF (v := .ref q3) (ty := .array .int) C.1.1 C.1.2.1 C.1.2.2.2.2.1 ea_ix8 tyX8 tyX8_ok nmX8 C.1.2.2.2.1 hK hP hD hS 0 rfl rfl 2 (by decide) (C.1.2.2.2.2.1 _ wf2_X8_18) (fun _ h9 => h9) rfl C.2 rfl (by decide +kernel) rfl rfl (Nat.le_of_ble_eq_true rfl) dX8_init_26 (fun H locs hP hD hS => ?_)
  have hP : va_P E.2.2.1 ea_cl [(h0, .inr (8, [.ref q1, .ref q2, .ref q3, .int 0, .int 0, .int 0, .int 0, .int 0])), (q1, .inl (E.2.1 0, 540, .inl (fun _ => 0))), (q2, .inl (E.2.1 0, 120, .inl (fun _ => 0))), (q3, .inl (E.2.1 0, 120, .inl (fun _ => 0)))] H := hP
  have hD : va_D (va_A [(h0, .inr (8, [.null, .null, .null, .int 0, .int 0, .int 0, .int 0, .int 0]))] sz) [(h0, .inr (8, [.ref q1, .ref q2, .ref q3, .int 0, .int 0, .int 0, .int 0, .int 0])), (q1, .inl (E.2.1 0, 540, .inl (fun _ => 0))), (q2, .inl (E.2.1 0, 120, .inl (fun _ => 0))), (q3, .inl (E.2.1 0, 120, .inl (fun _ => 0)))] := hD
  exact eb_ret (eb_ad [h0, q1, q2, q3]) C (hP.sub [0, 1, 2, 3] rfl) hK (hD.sub [0, 1, 2, 3] (by decide) rfl) hS dX8_init_29
set_option maxHeartbeats 8000000 in
set_option maxRecDepth 100000 in
theorem nX4_init {l : Launch} {E : eE} {h0 sz : Nat} : eb_M l yX4_init cX4_init 1 1 1 3420 12 E [.ref h0] [(h0, .inr (4, [.null, .int 0]))] sz (fun u => [(h0, .inr (4, [.ref (u 1), .int 0])), ((u 1), .inl (E.2.1 0, 3420, .inl (fun _ => 0)))]) := by
  refine eb_go (by decide) (Nat.le_of_ble_eq_true rfl) rfl ?_
  intro p e s m below meth c ls hsz C hP hK hD hF hN hl
  have hA : ∀ q : Nat, s.heap.size ≤ q → va_A [(h0, .inr (4, [.null, .int 0]))] sz q := fun q h => Or.inr (by rw [← hsz]; exact h)
  have hS : va_S (va_A [(h0, .inr (4, [.null, .int 0]))] sz) s.heap s.heap [] := va_S.rf
  have hl : lv_has ls 1 [(0, .ref h0)] := hl
  refine lv_aload_n C.1.1 C.1.2.1 dX4_init_0 rfl (lv_at hl 0 rfl) ?_
  refine eb_obj C wl2_X4_1 hl.1 dX4_init_1 (Nat.le_of_ble_eq_true rfl) (Nat.le_of_ble_eq_true rfl) ?_
  refine lv_aload_n C.1.1 C.1.2.1 dX4_init_4 rfl (lv_at hl 0 rfl) ?_
  refine lv_sipush (v := 3420) C.1.1 C.1.2.1 dX4_init_5 (by decide) ?_
  refine eb_newa (atype := .int) (kt := 0) (ty := .int) (N' := 3420) (a0 := (3420, .inl (fun _ => 0))) C.1 wa_int rfl rfl (fun _ h => h) hK hP hD hS hA (fun _ => rfl) (by decide) (by decide) (by decide) (Nat.le_of_ble_eq_true rfl) (Nat.le_of_ble_eq_true rfl) dX4_init_8 (fun q1 H hP hD hS => ?_)
  have hP : va_P E.2.2.1 ea_cl [(h0, .inr (4, [.null, .int 0])), (q1, .inl (E.2.1 0, 3420, .inl (fun _ => 0)))] H := hP
  have hD : va_D (va_A [(h0, .inr (4, [.null, .int 0]))] sz) [(h0, .inr (4, [.null, .int 0])), (q1, .inl (E.2.1 0, 3420, .inl (fun _ => 0)))] := hD
  refine W.widen (k := 1) (n := 3420) (by decide) (by decide) ?_
  refine va_putF (v := .ref q1) (ty := .array .int) C.1.1 C.1.2.1 C.1.2.2.2.2.1 ea_ix4 tyX4 tyX4_ok nmX4 C.1.2.2.2.1 hK hP hD hS 0 rfl rfl 0 (by decide) (C.1.2.2.2.2.1 _ wf2_X4_11) (fun _ h9 => h9) rfl C.2 rfl (by decide +kernel) rfl rfl (Nat.le_of_ble_eq_true rfl) dX4_init_10 (fun H locs hP hD hS => ?_)
  have hP : va_P E.2.2.1 ea_cl [(h0, .inr (4, [.ref q1, .int 0])), (q1, .inl (E.2.1 0, 3420, .inl (fun _ => 0)))] H := hP
  have hD : va_D (va_A [(h0, .inr (4, [.null, .int 0]))] sz) [(h0, .inr (4, [.ref q1, .int 0])), (q1, .inl (E.2.1 0, 3420, .inl (fun _ => 0)))] := hD
  exact eb_ret (eb_ad [h0, q1]) C (hP.sub [0, 1] rfl) hK (hD.sub [0, 1] (by decide) rfl) hS dX4_init_13
set_option maxHeartbeats 8000000 in
set_option maxRecDepth 100000 in
theorem nX6_init {l : Launch} {E : eE} {h0 sz : Nat} : eb_M l yX6_init cX6_init 1 1 5 201 12 E [.ref h0] [(h0, .inr (6, [.null, .null, .null, .int 0, .null, .null, .int 0]))] sz (fun u => [(h0, .inr (6, [.ref (u 1), .ref (u 2), .ref (u 3), .int 0, .ref (u 4), .ref (u 5), .int 0])), ((u 1), .inl (E.2.1 0, 3, .inl (fun _ => 0))), ((u 2), .inl (E.2.1 0, 3, .inl (fun _ => 0))), ((u 3), .inl (E.2.1 0, 3, .inl (fun _ => 0))), ((u 4), .inl (E.2.1 0, 3, .inl (fun _ => 0))), ((u 5), .inl (E.2.1 0, 189, .inl (fun _ => 0)))]) := by
  refine eb_go (by decide) (Nat.le_of_ble_eq_true rfl) rfl ?_
  intro p e s m below meth c ls hsz C hP hK hD hF hN hl
  have hA : ∀ q : Nat, s.heap.size ≤ q → va_A [(h0, .inr (6, [.null, .null, .null, .int 0, .null, .null, .int 0]))] sz q := fun q h => Or.inr (by rw [← hsz]; exact h)
  have hS : va_S (va_A [(h0, .inr (6, [.null, .null, .null, .int 0, .null, .null, .int 0]))] sz) s.heap s.heap [] := va_S.rf
  have hl : lv_has ls 1 [(0, .ref h0)] := hl
  refine lv_aload_n C.1.1 C.1.2.1 dX6_init_0 rfl (lv_at hl 0 rfl) ?_
  refine eb_obj C wl2_X6_3 hl.1 dX6_init_1 (Nat.le_of_ble_eq_true rfl) (Nat.le_of_ble_eq_true rfl) ?_
  refine lv_aload_n C.1.1 C.1.2.1 dX6_init_4 rfl (lv_at hl 0 rfl) ?_
  refine lv_iconst (v := 3) C.1.1 C.1.2.1 dX6_init_5 (by decide) ?_
  refine eb_newa (atype := .int) (kt := 0) (ty := .int) (N' := 3) (a0 := (3, .inl (fun _ => 0))) C.1 wa_int rfl rfl (fun _ h => h) hK hP hD hS hA (fun _ => rfl) (by decide) (by decide) (by decide) (Nat.le_of_ble_eq_true rfl) (Nat.le_of_ble_eq_true rfl) dX6_init_6 (fun q1 H hP hD hS => ?_)
  have hP : va_P E.2.2.1 ea_cl [(h0, .inr (6, [.null, .null, .null, .int 0, .null, .null, .int 0])), (q1, .inl (E.2.1 0, 3, .inl (fun _ => 0)))] H := hP
  have hD : va_D (va_A [(h0, .inr (6, [.null, .null, .null, .int 0, .null, .null, .int 0]))] sz) [(h0, .inr (6, [.null, .null, .null, .int 0, .null, .null, .int 0])), (q1, .inl (E.2.1 0, 3, .inl (fun _ => 0)))] := hD
  refine W.widen (k := 1) (n := 3) (by decide) (by decide) ?_
  refine va_putF (v := .ref q1) (ty := .array .int) C.1.1 C.1.2.1 C.1.2.2.2.2.1 ea_ix6 tyX6 tyX6_ok nmX6 C.1.2.2.2.1 hK hP hD hS 0 rfl rfl 0 (by decide) (C.1.2.2.2.2.1 _ wf2_X6_9) (fun _ h9 => h9) rfl C.2 rfl (by decide +kernel) rfl rfl (Nat.le_of_ble_eq_true rfl) dX6_init_8 (fun H locs hP hD hS => ?_)
  have hP : va_P E.2.2.1 ea_cl [(h0, .inr (6, [.ref q1, .null, .null, .int 0, .null, .null, .int 0])), (q1, .inl (E.2.1 0, 3, .inl (fun _ => 0)))] H := hP
  have hD : va_D (va_A [(h0, .inr (6, [.null, .null, .null, .int 0, .null, .null, .int 0]))] sz) [(h0, .inr (6, [.ref q1, .null, .null, .int 0, .null, .null, .int 0])), (q1, .inl (E.2.1 0, 3, .inl (fun _ => 0)))] := hD
  refine lv_aload_n C.1.1 C.1.2.1 dX6_init_11 rfl (lv_at hl 0 rfl) ?_
  refine lv_iconst (v := 3) C.1.1 C.1.2.1 dX6_init_12 (by decide) ?_
  refine eb_newa (atype := .int) (kt := 0) (ty := .int) (N' := 3) (a0 := (3, .inl (fun _ => 0))) C.1 wa_int rfl rfl (fun _ h => h) hK hP hD hS hA (fun _ => rfl) (by decide) (by decide) (by decide) (Nat.le_of_ble_eq_true rfl) (Nat.le_of_ble_eq_true rfl) dX6_init_13 (fun q2 H hP hD hS => ?_)
  have hP : va_P E.2.2.1 ea_cl [(h0, .inr (6, [.ref q1, .null, .null, .int 0, .null, .null, .int 0])), (q1, .inl (E.2.1 0, 3, .inl (fun _ => 0))), (q2, .inl (E.2.1 0, 3, .inl (fun _ => 0)))] H := hP
  have hD : va_D (va_A [(h0, .inr (6, [.null, .null, .null, .int 0, .null, .null, .int 0]))] sz) [(h0, .inr (6, [.ref q1, .null, .null, .int 0, .null, .null, .int 0])), (q1, .inl (E.2.1 0, 3, .inl (fun _ => 0))), (q2, .inl (E.2.1 0, 3, .inl (fun _ => 0)))] := hD
  refine W.widen (k := 2) (n := 6) (by decide) (by decide) ?_
  refine va_putF (v := .ref q2) (ty := .array .int) C.1.1 C.1.2.1 C.1.2.2.2.2.1 ea_ix6 tyX6 tyX6_ok nmX6 C.1.2.2.2.1 hK hP hD hS 0 rfl rfl 1 (by decide) (C.1.2.2.2.2.1 _ wf2_X6_15) (fun _ h9 => h9) rfl C.2 rfl (by decide +kernel) rfl rfl (Nat.le_of_ble_eq_true rfl) dX6_init_15 (fun H locs hP hD hS => ?_)
  have hP : va_P E.2.2.1 ea_cl [(h0, .inr (6, [.ref q1, .ref q2, .null, .int 0, .null, .null, .int 0])), (q1, .inl (E.2.1 0, 3, .inl (fun _ => 0))), (q2, .inl (E.2.1 0, 3, .inl (fun _ => 0)))] H := hP
  have hD : va_D (va_A [(h0, .inr (6, [.null, .null, .null, .int 0, .null, .null, .int 0]))] sz) [(h0, .inr (6, [.ref q1, .ref q2, .null, .int 0, .null, .null, .int 0])), (q1, .inl (E.2.1 0, 3, .inl (fun _ => 0))), (q2, .inl (E.2.1 0, 3, .inl (fun _ => 0)))] := hD
  refine lv_aload_n C.1.1 C.1.2.1 dX6_init_18 rfl (lv_at hl 0 rfl) ?_
  refine lv_iconst (v := 3) C.1.1 C.1.2.1 dX6_init_19 (by decide) ?_
  refine eb_newa (atype := .int) (kt := 0) (ty := .int) (N' := 3) (a0 := (3, .inl (fun _ => 0))) C.1 wa_int rfl rfl (fun _ h => h) hK hP hD hS hA (fun _ => rfl) (by decide) (by decide) (by decide) (Nat.le_of_ble_eq_true rfl) (Nat.le_of_ble_eq_true rfl) dX6_init_20 (fun q3 H hP hD hS => ?_)
  have hP : va_P E.2.2.1 ea_cl [(h0, .inr (6, [.ref q1, .ref q2, .null, .int 0, .null, .null, .int 0])), (q1, .inl (E.2.1 0, 3, .inl (fun _ => 0))), (q2, .inl (E.2.1 0, 3, .inl (fun _ => 0))), (q3, .inl (E.2.1 0, 3, .inl (fun _ => 0)))] H := hP
  have hD : va_D (va_A [(h0, .inr (6, [.null, .null, .null, .int 0, .null, .null, .int 0]))] sz) [(h0, .inr (6, [.ref q1, .ref q2, .null, .int 0, .null, .null, .int 0])), (q1, .inl (E.2.1 0, 3, .inl (fun _ => 0))), (q2, .inl (E.2.1 0, 3, .inl (fun _ => 0))), (q3, .inl (E.2.1 0, 3, .inl (fun _ => 0)))] := hD
  refine W.widen (k := 3) (n := 9) (by decide) (by decide) ?_
  refine va_putF (v := .ref q3) (ty := .array .int) C.1.1 C.1.2.1 C.1.2.2.2.2.1 ea_ix6 tyX6 tyX6_ok nmX6 C.1.2.2.2.1 hK hP hD hS 0 rfl rfl 2 (by decide) (C.1.2.2.2.2.1 _ wf2_X6_18) (fun _ h9 => h9) rfl C.2 rfl (by decide +kernel) rfl rfl (Nat.le_of_ble_eq_true rfl) dX6_init_22 (fun H locs hP hD hS => ?_)
  have hP : va_P E.2.2.1 ea_cl [(h0, .inr (6, [.ref q1, .ref q2, .ref q3, .int 0, .null, .null, .int 0])), (q1, .inl (E.2.1 0, 3, .inl (fun _ => 0))), (q2, .inl (E.2.1 0, 3, .inl (fun _ => 0))), (q3, .inl (E.2.1 0, 3, .inl (fun _ => 0)))] H := hP
  have hD : va_D (va_A [(h0, .inr (6, [.null, .null, .null, .int 0, .null, .null, .int 0]))] sz) [(h0, .inr (6, [.ref q1, .ref q2, .ref q3, .int 0, .null, .null, .int 0])), (q1, .inl (E.2.1 0, 3, .inl (fun _ => 0))), (q2, .inl (E.2.1 0, 3, .inl (fun _ => 0))), (q3, .inl (E.2.1 0, 3, .inl (fun _ => 0)))] := hD
  refine lv_aload_n C.1.1 C.1.2.1 dX6_init_25 rfl (lv_at hl 0 rfl) ?_
  refine lv_iconst (v := 3) C.1.1 C.1.2.1 dX6_init_26 (by decide) ?_
  refine eb_newa (atype := .int) (kt := 0) (ty := .int) (N' := 3) (a0 := (3, .inl (fun _ => 0))) C.1 wa_int rfl rfl (fun _ h => h) hK hP hD hS hA (fun _ => rfl) (by decide) (by decide) (by decide) (Nat.le_of_ble_eq_true rfl) (Nat.le_of_ble_eq_true rfl) dX6_init_27 (fun q4 H hP hD hS => ?_)
  have hP : va_P E.2.2.1 ea_cl [(h0, .inr (6, [.ref q1, .ref q2, .ref q3, .int 0, .null, .null, .int 0])), (q1, .inl (E.2.1 0, 3, .inl (fun _ => 0))), (q2, .inl (E.2.1 0, 3, .inl (fun _ => 0))), (q3, .inl (E.2.1 0, 3, .inl (fun _ => 0))), (q4, .inl (E.2.1 0, 3, .inl (fun _ => 0)))] H := hP
  have hD : va_D (va_A [(h0, .inr (6, [.null, .null, .null, .int 0, .null, .null, .int 0]))] sz) [(h0, .inr (6, [.ref q1, .ref q2, .ref q3, .int 0, .null, .null, .int 0])), (q1, .inl (E.2.1 0, 3, .inl (fun _ => 0))), (q2, .inl (E.2.1 0, 3, .inl (fun _ => 0))), (q3, .inl (E.2.1 0, 3, .inl (fun _ => 0))), (q4, .inl (E.2.1 0, 3, .inl (fun _ => 0)))] := hD
  refine W.widen (k := 4) (n := 12) (by decide) (by decide) ?_
  refine va_putF (v := .ref q4) (ty := .array .int) C.1.1 C.1.2.1 C.1.2.2.2.2.1 ea_ix6 tyX6 tyX6_ok nmX6 C.1.2.2.2.1 hK hP hD hS 0 rfl rfl 4 (by decide) (C.1.2.2.2.2.1 _ wf2_X6_21) (fun _ h9 => h9) rfl C.2 rfl (by decide +kernel) rfl rfl (Nat.le_of_ble_eq_true rfl) dX6_init_29 (fun H locs hP hD hS => ?_)
  have hP : va_P E.2.2.1 ea_cl [(h0, .inr (6, [.ref q1, .ref q2, .ref q3, .int 0, .ref q4, .null, .int 0])), (q1, .inl (E.2.1 0, 3, .inl (fun _ => 0))), (q2, .inl (E.2.1 0, 3, .inl (fun _ => 0))), (q3, .inl (E.2.1 0, 3, .inl (fun _ => 0))), (q4, .inl (E.2.1 0, 3, .inl (fun _ => 0)))] H := hP
  have hD : va_D (va_A [(h0, .inr (6, [.null, .null, .null, .int 0, .null, .null, .int 0]))] sz) [(h0, .inr (6, [.ref q1, .ref q2, .ref q3, .int 0, .ref q4, .null, .int 0])), (q1, .inl (E.2.1 0, 3, .inl (fun _ => 0))), (q2, .inl (E.2.1 0, 3, .inl (fun _ => 0))), (q3, .inl (E.2.1 0, 3, .inl (fun _ => 0))), (q4, .inl (E.2.1 0, 3, .inl (fun _ => 0)))] := hD
  refine lv_aload_n C.1.1 C.1.2.1 dX6_init_32 rfl (lv_at hl 0 rfl) ?_
  refine lv_sipush (v := 189) C.1.1 C.1.2.1 dX6_init_33 (by decide) ?_
  refine eb_newa (atype := .int) (kt := 0) (ty := .int) (N' := 189) (a0 := (189, .inl (fun _ => 0))) C.1 wa_int rfl rfl (fun _ h => h) hK hP hD hS hA (fun _ => rfl) (by decide) (by decide) (by decide) (Nat.le_of_ble_eq_true rfl) (Nat.le_of_ble_eq_true rfl) dX6_init_36 (fun q5 H hP hD hS => ?_)
  have hP : va_P E.2.2.1 ea_cl [(h0, .inr (6, [.ref q1, .ref q2, .ref q3, .int 0, .ref q4, .null, .int 0])), (q1, .inl (E.2.1 0, 3, .inl (fun _ => 0))), (q2, .inl (E.2.1 0, 3, .inl (fun _ => 0))), (q3, .inl (E.2.1 0, 3, .inl (fun _ => 0))), (q4, .inl (E.2.1 0, 3, .inl (fun _ => 0))), (q5, .inl (E.2.1 0, 189, .inl (fun _ => 0)))] H := hP
  have hD : va_D (va_A [(h0, .inr (6, [.null, .null, .null, .int 0, .null, .null, .int 0]))] sz) [(h0, .inr (6, [.ref q1, .ref q2, .ref q3, .int 0, .ref q4, .null, .int 0])), (q1, .inl (E.2.1 0, 3, .inl (fun _ => 0))), (q2, .inl (E.2.1 0, 3, .inl (fun _ => 0))), (q3, .inl (E.2.1 0, 3, .inl (fun _ => 0))), (q4, .inl (E.2.1 0, 3, .inl (fun _ => 0))), (q5, .inl (E.2.1 0, 189, .inl (fun _ => 0)))] := hD
  refine W.widen (k := 5) (n := 201) (by decide) (by decide) ?_
  refine va_putF (v := .ref q5) (ty := .array .int) C.1.1 C.1.2.1 C.1.2.2.2.2.1 ea_ix6 tyX6 tyX6_ok nmX6 C.1.2.2.2.1 hK hP hD hS 0 rfl rfl 5 (by decide) (C.1.2.2.2.2.1 _ wf2_X6_24) (fun _ h9 => h9) rfl C.2 rfl (by decide +kernel) rfl rfl (Nat.le_of_ble_eq_true rfl) dX6_init_38 (fun H locs hP hD hS => ?_)
  have hP : va_P E.2.2.1 ea_cl [(h0, .inr (6, [.ref q1, .ref q2, .ref q3, .int 0, .ref q4, .ref q5, .int 0])), (q1, .inl (E.2.1 0, 3, .inl (fun _ => 0))), (q2, .inl (E.2.1 0, 3, .inl (fun _ => 0))), (q3, .inl (E.2.1 0, 3, .inl (fun _ => 0))), (q4, .inl (E.2.1 0, 3, .inl (fun _ => 0))), (q5, .inl (E.2.1 0, 189, .inl (fun _ => 0)))] H := hP
  have hD : va_D (va_A [(h0, .inr (6, [.null, .null, .null, .int 0, .null, .null, .int 0]))] sz) [(h0, .inr (6, [.ref q1, .ref q2, .ref q3, .int 0, .ref q4, .ref q5, .int 0])), (q1, .inl (E.2.1 0, 3, .inl (fun _ => 0))), (q2, .inl (E.2.1 0, 3, .inl (fun _ => 0))), (q3, .inl (E.2.1 0, 3, .inl (fun _ => 0))), (q4, .inl (E.2.1 0, 3, .inl (fun _ => 0))), (q5, .inl (E.2.1 0, 189, .inl (fun _ => 0)))] := hD
  exact eb_ret (eb_ad [h0, q1, q2, q3, q4, q5]) C (hP.sub [0, 1, 2, 3, 4, 5] rfl) hK (hD.sub [0, 1, 2, 3, 4, 5] (by decide) rfl) hS dX6_init_41
set_option maxHeartbeats 8000000 in
set_option maxRecDepth 100000 in
theorem nX9_init {l : Launch} {E : eE} {h0 sz p1 : Nat} : eb_M l yX9_init cX9_init 2 1 2 1710 12 E [.ref h0, .ref p1] [(h0, .inr (9, [.null, .int 0, .null, .null]))] sz (fun u => [(h0, .inr (9, [.ref p1, .int 0, .ref (u 1), .ref (u 2)])), ((u 1), .inl (E.2.1 0, 855, .inl (fun _ => 0))), ((u 2), .inl (E.2.1 0, 855, .inl (fun _ => 0)))]) := by
  refine eb_go (by decide) (Nat.le_of_ble_eq_true rfl) rfl ?_
  intro p e s m below meth c ls hsz C hP hK hD hF hN hl
  have hA : ∀ q : Nat, s.heap.size ≤ q → va_A [(h0, .inr (9, [.null, .int 0, .null, .null]))] sz q := fun q h => Or.inr (by rw [← hsz]; exact h)
  have hS : va_S (va_A [(h0, .inr (9, [.null, .int 0, .null, .null]))] sz) s.heap s.heap [] := va_S.rf
  have hl : lv_has ls 2 [(0, .ref h0), (1, .ref p1)] := hl
  refine lv_aload_n C.1.1 C.1.2.1 dX9_init_0 rfl (lv_at hl 0 rfl) ?_
  refine eb_obj C wl2_X9_3 hl.1 dX9_init_1 (Nat.le_of_ble_eq_true rfl) (Nat.le_of_ble_eq_true rfl) ?_
  refine lv_aload_n C.1.1 C.1.2.1 dX9_init_4 rfl (lv_at hl 0 rfl) ?_
  refine lv_sipush (v := 855) C.1.1 C.1.2.1 dX9_init_5 (by decide) ?_
  refine eb_newa (atype := .int) (kt := 0) (ty := .int) (N' := 855) (a0 := (855, .inl (fun _ => 0))) C.1 wa_int rfl rfl (fun _ h => h) hK hP hD hS hA (fun _ => rfl) (by decide) (by decide) (by decide) (Nat.le_of_ble_eq_true rfl) (Nat.le_of_ble_eq_true rfl) dX9_init_8 (fun q1 H hP hD hS => ?_)
  have hP : va_P E.2.2.1 ea_cl [(h0, .inr (9, [.null, .int 0, .null, .null])), (q1, .inl (E.2.1 0, 855, .inl (fun _ => 0)))] H := hP
  have hD : va_D (va_A [(h0, .inr (9, [.null, .int 0, .null, .null]))] sz) [(h0, .inr (9, [.null, .int 0, .null, .null])), (q1, .inl (E.2.1 0, 855, .inl (fun _ => 0)))] := hD
  refine W.widen (k := 1) (n := 855) (by decide) (by decide) ?_
  refine va_putF (v := .ref q1) (ty := .array .int) C.1.1 C.1.2.1 C.1.2.2.2.2.1 ea_ix9 tyX9 tyX9_ok nmX9 C.1.2.2.2.1 hK hP hD hS 0 rfl rfl 2 (by decide) (C.1.2.2.2.2.1 _ wf2_X9_11) (fun _ h9 => h9) rfl C.2 rfl (by decide +kernel) rfl rfl (Nat.le_of_ble_eq_true rfl) dX9_init_10 (fun H locs hP hD hS => ?_)
  have hP : va_P E.2.2.1 ea_cl [(h0, .inr (9, [.null, .int 0, .ref q1, .null])), (q1, .inl (E.2.1 0, 855, .inl (fun _ => 0)))] H := hP
  have hD : va_D (va_A [(h0, .inr (9, [.null, .int 0, .null, .null]))] sz) [(h0, .inr (9, [.null, .int 0, .ref q1, .null])), (q1, .inl (E.2.1 0, 855, .inl (fun _ => 0)))] := hD
  refine lv_aload_n C.1.1 C.1.2.1 dX9_init_13 rfl (lv_at hl 0 rfl) ?_
  refine lv_sipush (v := 855) C.1.1 C.1.2.1 dX9_init_14 (by decide) ?_
  refine eb_newa (atype := .int) (kt := 0) (ty := .int) (N' := 855) (a0 := (855, .inl (fun _ => 0))) C.1 wa_int rfl rfl (fun _ h => h) hK hP hD hS hA (fun _ => rfl) (by decide) (by decide) (by decide) (Nat.le_of_ble_eq_true rfl) (Nat.le_of_ble_eq_true rfl) dX9_init_17 (fun q2 H hP hD hS => ?_)
  have hP : va_P E.2.2.1 ea_cl [(h0, .inr (9, [.null, .int 0, .ref q1, .null])), (q1, .inl (E.2.1 0, 855, .inl (fun _ => 0))), (q2, .inl (E.2.1 0, 855, .inl (fun _ => 0)))] H := hP
  have hD : va_D (va_A [(h0, .inr (9, [.null, .int 0, .null, .null]))] sz) [(h0, .inr (9, [.null, .int 0, .ref q1, .null])), (q1, .inl (E.2.1 0, 855, .inl (fun _ => 0))), (q2, .inl (E.2.1 0, 855, .inl (fun _ => 0)))] := hD
  refine W.widen (k := 2) (n := 1710) (by decide) (by decide) ?_
  refine va_putF (v := .ref q2) (ty := .array .int) C.1.1 C.1.2.1 C.1.2.2.2.2.1 ea_ix9 tyX9 tyX9_ok nmX9 C.1.2.2.2.1 hK hP hD hS 0 rfl rfl 3 (by decide) (C.1.2.2.2.2.1 _ wf2_X9_15) (fun _ h9 => h9) rfl C.2 rfl (by decide +kernel) rfl rfl (Nat.le_of_ble_eq_true rfl) dX9_init_19 (fun H locs hP hD hS => ?_)
  have hP : va_P E.2.2.1 ea_cl [(h0, .inr (9, [.null, .int 0, .ref q1, .ref q2])), (q1, .inl (E.2.1 0, 855, .inl (fun _ => 0))), (q2, .inl (E.2.1 0, 855, .inl (fun _ => 0)))] H := hP
  have hD : va_D (va_A [(h0, .inr (9, [.null, .int 0, .null, .null]))] sz) [(h0, .inr (9, [.null, .int 0, .ref q1, .ref q2])), (q1, .inl (E.2.1 0, 855, .inl (fun _ => 0))), (q2, .inl (E.2.1 0, 855, .inl (fun _ => 0)))] := hD
  refine lv_aload_n C.1.1 C.1.2.1 dX9_init_22 rfl (lv_at hl 0 rfl) ?_
  refine lv_aload_n C.1.1 C.1.2.1 dX9_init_23 rfl (lv_at hl 1 rfl) ?_
  refine va_put (v := .ref p1) (ty := .object "ClothBack$Cloth") C.1.1 C.1.2.1 C.1.2.2.2.2.1 ea_ix9 tyX9 tyX9_ok nmX9 C.1.2.2.2.1 hK hP hD hS 0 rfl rfl 0 (by decide) (C.1.2.2.2.2.1 _ wf2_X9_18) (fun _ h9 => h9) rfl (by decide +kernel) rfl rfl (Nat.le_of_ble_eq_true rfl) dX9_init_24 (fun H locs hP hD hS => ?_)
  have hP : va_P E.2.2.1 ea_cl [(h0, .inr (9, [.ref p1, .int 0, .ref q1, .ref q2])), (q1, .inl (E.2.1 0, 855, .inl (fun _ => 0))), (q2, .inl (E.2.1 0, 855, .inl (fun _ => 0)))] H := hP
  have hD : va_D (va_A [(h0, .inr (9, [.null, .int 0, .null, .null]))] sz) [(h0, .inr (9, [.ref p1, .int 0, .ref q1, .ref q2])), (q1, .inl (E.2.1 0, 855, .inl (fun _ => 0))), (q2, .inl (E.2.1 0, 855, .inl (fun _ => 0)))] := hD
  exact eb_ret (eb_ad [h0, q1, q2]) C (hP.sub [0, 1, 2] rfl) hK (hD.sub [0, 1, 2] (by decide) rfl) hS dX9_init_27
set_option maxHeartbeats 8000000 in
set_option maxRecDepth 100000 in
theorem nX5_init {l : Launch} {E : eE} {h0 sz p1 : Nat} : eb_M l yX5_init cX5_init 2 1 1 138 12 E [.ref h0, .ref p1] [(h0, .inr (5, [.null, .null]))] sz (fun u => [(h0, .inr (5, [.ref p1, .ref (u 1)])), ((u 1), .inl (E.2.1 0, 138, .inl (fun _ => 0)))]) := by
  refine eb_go (by decide) (Nat.le_of_ble_eq_true rfl) rfl ?_
  intro p e s m below meth c ls hsz C hP hK hD hF hN hl
  have hA : ∀ q : Nat, s.heap.size ≤ q → va_A [(h0, .inr (5, [.null, .null]))] sz q := fun q h => Or.inr (by rw [← hsz]; exact h)
  have hS : va_S (va_A [(h0, .inr (5, [.null, .null]))] sz) s.heap s.heap [] := va_S.rf
  have hl : lv_has ls 2 [(0, .ref h0), (1, .ref p1)] := hl
  refine lv_aload_n C.1.1 C.1.2.1 dX5_init_0 rfl (lv_at hl 0 rfl) ?_
  refine eb_obj C wl2_X5_1 hl.1 dX5_init_1 (Nat.le_of_ble_eq_true rfl) (Nat.le_of_ble_eq_true rfl) ?_
  refine lv_aload_n C.1.1 C.1.2.1 dX5_init_4 rfl (lv_at hl 0 rfl) ?_
  refine lv_sipush (v := 138) C.1.1 C.1.2.1 dX5_init_5 (by decide) ?_
  refine eb_newa (atype := .int) (kt := 0) (ty := .int) (N' := 138) (a0 := (138, .inl (fun _ => 0))) C.1 wa_int rfl rfl (fun _ h => h) hK hP hD hS hA (fun _ => rfl) (by decide) (by decide) (by decide) (Nat.le_of_ble_eq_true rfl) (Nat.le_of_ble_eq_true rfl) dX5_init_8 (fun q1 H hP hD hS => ?_)
  have hP : va_P E.2.2.1 ea_cl [(h0, .inr (5, [.null, .null])), (q1, .inl (E.2.1 0, 138, .inl (fun _ => 0)))] H := hP
  have hD : va_D (va_A [(h0, .inr (5, [.null, .null]))] sz) [(h0, .inr (5, [.null, .null])), (q1, .inl (E.2.1 0, 138, .inl (fun _ => 0)))] := hD
  refine W.widen (k := 1) (n := 138) (by decide) (by decide) ?_
  refine va_putF (v := .ref q1) (ty := .array .int) C.1.1 C.1.2.1 C.1.2.2.2.2.1 ea_ix5 tyX5 tyX5_ok nmX5 C.1.2.2.2.1 hK hP hD hS 0 rfl rfl 1 (by decide) (C.1.2.2.2.2.1 _ wf2_X5_9) (fun _ h9 => h9) rfl C.2 rfl (by decide +kernel) rfl rfl (Nat.le_of_ble_eq_true rfl) dX5_init_10 (fun H locs hP hD hS => ?_)
  have hP : va_P E.2.2.1 ea_cl [(h0, .inr (5, [.null, .ref q1])), (q1, .inl (E.2.1 0, 138, .inl (fun _ => 0)))] H := hP
  have hD : va_D (va_A [(h0, .inr (5, [.null, .null]))] sz) [(h0, .inr (5, [.null, .ref q1])), (q1, .inl (E.2.1 0, 138, .inl (fun _ => 0)))] := hD
  refine lv_aload_n C.1.1 C.1.2.1 dX5_init_13 rfl (lv_at hl 0 rfl) ?_
  refine lv_aload_n C.1.1 C.1.2.1 dX5_init_14 rfl (lv_at hl 1 rfl) ?_
  refine va_putF (v := .ref p1) (ty := .object "ClothBack$Yarn") C.1.1 C.1.2.1 C.1.2.2.2.2.1 ea_ix5 tyX5 tyX5_ok nmX5 C.1.2.2.2.1 hK hP hD hS 0 rfl rfl 0 (by decide) (C.1.2.2.2.2.1 _ wf2_X5_15) (fun _ h9 => h9) rfl C.2 rfl (by decide +kernel) rfl rfl (Nat.le_of_ble_eq_true rfl) dX5_init_15 (fun H locs hP hD hS => ?_)
  have hP : va_P E.2.2.1 ea_cl [(h0, .inr (5, [.ref p1, .ref q1])), (q1, .inl (E.2.1 0, 138, .inl (fun _ => 0)))] H := hP
  have hD : va_D (va_A [(h0, .inr (5, [.null, .null]))] sz) [(h0, .inr (5, [.ref p1, .ref q1])), (q1, .inl (E.2.1 0, 138, .inl (fun _ => 0)))] := hD
  exact eb_ret (eb_ad [h0, q1]) C (hP.sub [0, 1] rfl) hK (hD.sub [0, 1] (by decide) rfl) hS dX5_init_18
set_option maxHeartbeats 8000000 in
set_option maxRecDepth 100000 in
theorem nX2_init {l : Launch} {E : eE} {h0 sz p1 p2 : Nat} : eb_M l yX2_init cX2_init 3 1 0 0 12 E [.ref h0, .ref p1, .ref p2] [(h0, .inr (2, [.int 0, .int 0, .null, .null, .int 0, .int 0, .int 0, .int 0, .int 0, .long 0]))] sz (fun u => [(h0, .inr (2, [.int 0, .int (-1), .ref p1, .ref p2, .int 0, .int 0, .int 0, .int 0, .int 0, .long 0]))]) := by
  refine eb_go (by decide) (Nat.le_of_ble_eq_true rfl) rfl ?_
  intro p e s m below meth c ls hsz C hP hK hD hF hN hl
  have hA : ∀ q : Nat, s.heap.size ≤ q → va_A [(h0, .inr (2, [.int 0, .int 0, .null, .null, .int 0, .int 0, .int 0, .int 0, .int 0, .long 0]))] sz q := fun q h => Or.inr (by rw [← hsz]; exact h)
  have hS : va_S (va_A [(h0, .inr (2, [.int 0, .int 0, .null, .null, .int 0, .int 0, .int 0, .int 0, .int 0, .long 0]))] sz) s.heap s.heap [] := va_S.rf
  have hl : lv_has ls 3 [(0, .ref h0), (1, .ref p1), (2, .ref p2)] := hl
  refine lv_aload_n C.1.1 C.1.2.1 dX2_init_0 rfl (lv_at hl 0 rfl) ?_
  refine eb_obj C wl2_X2_3 hl.1 dX2_init_1 (Nat.le_of_ble_eq_true rfl) (Nat.le_of_ble_eq_true rfl) ?_
  refine lv_aload_n C.1.1 C.1.2.1 dX2_init_4 rfl (lv_at hl 0 rfl) ?_
  refine lv_iconst (v := 0) C.1.1 C.1.2.1 dX2_init_5 (by decide) ?_
  refine va_put (v := .int 0) (ty := .int) C.1.1 C.1.2.1 C.1.2.2.2.2.1 ea_ix2 tyX2 tyX2_ok nmX2 C.1.2.2.2.1 hK hP hD hS 0 rfl rfl 0 (by decide) (C.1.2.2.2.2.1 _ wf2_X2_9) (fun _ h9 => h9) rfl (by decide +kernel) rfl rfl (Nat.le_of_ble_eq_true rfl) dX2_init_6 (fun H locs hP hD hS => ?_)
  have hP : va_P E.2.2.1 ea_cl [(h0, .inr (2, [.int 0, .int 0, .null, .null, .int 0, .int 0, .int 0, .int 0, .int 0, .long 0]))] H := hP
  have hD : va_D (va_A [(h0, .inr (2, [.int 0, .int 0, .null, .null, .int 0, .int 0, .int 0, .int 0, .int 0, .long 0]))] sz) [(h0, .inr (2, [.int 0, .int 0, .null, .null, .int 0, .int 0, .int 0, .int 0, .int 0, .long 0]))] := hD
  refine lv_aload_n C.1.1 C.1.2.1 dX2_init_9 rfl (lv_at hl 0 rfl) ?_
  refine lv_iconst (v := (-1)) C.1.1 C.1.2.1 dX2_init_10 (by decide) ?_
  refine va_put (v := .int (-1)) (ty := .int) C.1.1 C.1.2.1 C.1.2.2.2.2.1 ea_ix2 tyX2 tyX2_ok nmX2 C.1.2.2.2.1 hK hP hD hS 0 rfl rfl 1 (by decide) (C.1.2.2.2.2.1 _ wf2_X2_15) (fun _ h9 => h9) rfl (by decide +kernel) rfl rfl (Nat.le_of_ble_eq_true rfl) dX2_init_11 (fun H locs hP hD hS => ?_)
  have hP : va_P E.2.2.1 ea_cl [(h0, .inr (2, [.int 0, .int (-1), .null, .null, .int 0, .int 0, .int 0, .int 0, .int 0, .long 0]))] H := hP
  have hD : va_D (va_A [(h0, .inr (2, [.int 0, .int 0, .null, .null, .int 0, .int 0, .int 0, .int 0, .int 0, .long 0]))] sz) [(h0, .inr (2, [.int 0, .int (-1), .null, .null, .int 0, .int 0, .int 0, .int 0, .int 0, .long 0]))] := hD
  refine lv_aload_n C.1.1 C.1.2.1 dX2_init_14 rfl (lv_at hl 0 rfl) ?_
  refine lv_aload_n C.1.1 C.1.2.1 dX2_init_15 rfl (lv_at hl 1 rfl) ?_
  refine va_putF (v := .ref p1) (ty := .object "ClothBack$Tape") C.1.1 C.1.2.1 C.1.2.2.2.2.1 ea_ix2 tyX2 tyX2_ok nmX2 C.1.2.2.2.1 hK hP hD hS 0 rfl rfl 2 (by decide) (C.1.2.2.2.2.1 _ wf2_X2_18) (fun _ h9 => h9) rfl C.2 rfl (by decide +kernel) rfl rfl (Nat.le_of_ble_eq_true rfl) dX2_init_16 (fun H locs hP hD hS => ?_)
  have hP : va_P E.2.2.1 ea_cl [(h0, .inr (2, [.int 0, .int (-1), .ref p1, .null, .int 0, .int 0, .int 0, .int 0, .int 0, .long 0]))] H := hP
  have hD : va_D (va_A [(h0, .inr (2, [.int 0, .int 0, .null, .null, .int 0, .int 0, .int 0, .int 0, .int 0, .long 0]))] sz) [(h0, .inr (2, [.int 0, .int (-1), .ref p1, .null, .int 0, .int 0, .int 0, .int 0, .int 0, .long 0]))] := hD
  refine lv_aload_n C.1.1 C.1.2.1 dX2_init_19 rfl (lv_at hl 0 rfl) ?_
  refine lv_aload_n C.1.1 C.1.2.1 dX2_init_20 rfl (lv_at hl 2 rfl) ?_
  refine va_put (v := .ref p2) (ty := .object "ClothBack$Cloth") C.1.1 C.1.2.1 C.1.2.2.2.2.1 ea_ix2 tyX2 tyX2_ok nmX2 C.1.2.2.2.1 hK hP hD hS 0 rfl rfl 3 (by decide) (C.1.2.2.2.2.1 _ wf2_X2_22) (fun _ h9 => h9) rfl (by decide +kernel) rfl rfl (Nat.le_of_ble_eq_true rfl) dX2_init_21 (fun H locs hP hD hS => ?_)
  have hP : va_P E.2.2.1 ea_cl [(h0, .inr (2, [.int 0, .int (-1), .ref p1, .ref p2, .int 0, .int 0, .int 0, .int 0, .int 0, .long 0]))] H := hP
  have hD : va_D (va_A [(h0, .inr (2, [.int 0, .int 0, .null, .null, .int 0, .int 0, .int 0, .int 0, .int 0, .long 0]))] sz) [(h0, .inr (2, [.int 0, .int (-1), .ref p1, .ref p2, .int 0, .int 0, .int 0, .int 0, .int 0, .long 0]))] := hD
  exact eb_ret (eb_ad [h0]) C (hP.sub [0] rfl) hK (hD.sub [0] (by decide) rfl) hS dX2_init_24
set_option maxHeartbeats 8000000 in
set_option maxRecDepth 100000 in
theorem nX3_init {l : Launch} {E : eE} {h0 sz p1 p2 : Nat} : eb_M l yX3_init cX3_init 3 2 9 1177 33 E [.ref h0, .ref p1, .ref p2] [(h0, .inr (3, [.null, .null, .null, .null, .null, .null, .int 0, .int 0, .int 0, .int 0, .int 0, .null, .null, .null, .null]))] sz (fun u => [(h0, .inr (3, [.ref p1, .ref p2, .ref (u 1), .ref (u 3), .ref (u 4), .ref (u 5), .int 0, .int 0, .int 0, .int 0, .int 0, .ref (u 6), .ref (u 7), .ref (u 8), .ref (u 9)])), ((u 1), .inr (5, [.ref p1, .ref (u 2)])), ((u 2), .inl (E.2.1 0, 138, .inl (fun _ => 0))), ((u 3), .inl (E.2.1 0, 855, .inl (fun _ => 0))), ((u 4), .inl (E.2.1 0, 3, .inl (fun _ => 0))), ((u 5), .inl (E.2.1 0, 3, .inl (fun _ => 0))), ((u 6), .inl (E.2.1 0, 22, .inl (fun _ => 0))), ((u 7), .inl (E.2.1 0, 22, .inl (fun _ => 0))), ((u 8), .inl (E.2.1 0, 66, .inl (fun _ => 0))), ((u 9), .inl (E.2.1 0, 66, .inl (fun _ => 0)))]) := by
  refine eb_go (by decide) (Nat.le_of_ble_eq_true rfl) rfl ?_
  intro p e s m below meth c ls hsz C hP hK hD hF hN hl
  have hA : ∀ q : Nat, s.heap.size ≤ q → va_A [(h0, .inr (3, [.null, .null, .null, .null, .null, .null, .int 0, .int 0, .int 0, .int 0, .int 0, .null, .null, .null, .null]))] sz q := fun q h => Or.inr (by rw [← hsz]; exact h)
  have hS : va_S (va_A [(h0, .inr (3, [.null, .null, .null, .null, .null, .null, .int 0, .int 0, .int 0, .int 0, .int 0, .null, .null, .null, .null]))] sz) s.heap s.heap [] := va_S.rf
  have hl : lv_has ls 3 [(0, .ref h0), (1, .ref p1), (2, .ref p2)] := hl
  refine lv_aload_n C.1.1 C.1.2.1 dX3_init_0 rfl (lv_at hl 0 rfl) ?_
  refine eb_obj C wl2_X3_5 hl.1 dX3_init_1 (Nat.le_of_ble_eq_true rfl) (Nat.le_of_ble_eq_true rfl) ?_
  refine lv_aload_n C.1.1 C.1.2.1 dX3_init_4 rfl (lv_at hl 0 rfl) ?_
  refine lv_sipush (v := 855) C.1.1 C.1.2.1 dX3_init_5 (by decide) ?_
  refine eb_newa (atype := .int) (kt := 0) (ty := .int) (N' := 855) (a0 := (855, .inl (fun _ => 0))) C.1 wa_int rfl rfl (fun _ h => h) hK hP hD hS hA (fun _ => rfl) (by decide) (by decide) (by decide) (Nat.le_of_ble_eq_true rfl) (Nat.le_of_ble_eq_true rfl) dX3_init_8 (fun q1 H hP hD hS => ?_)
  have hP : va_P E.2.2.1 ea_cl [(h0, .inr (3, [.null, .null, .null, .null, .null, .null, .int 0, .int 0, .int 0, .int 0, .int 0, .null, .null, .null, .null])), (q1, .inl (E.2.1 0, 855, .inl (fun _ => 0)))] H := hP
  have hD : va_D (va_A [(h0, .inr (3, [.null, .null, .null, .null, .null, .null, .int 0, .int 0, .int 0, .int 0, .int 0, .null, .null, .null, .null]))] sz) [(h0, .inr (3, [.null, .null, .null, .null, .null, .null, .int 0, .int 0, .int 0, .int 0, .int 0, .null, .null, .null, .null])), (q1, .inl (E.2.1 0, 855, .inl (fun _ => 0)))] := hD
  refine W.widen (k := 1) (n := 855) (by decide) (by decide) ?_
  refine va_putF (v := .ref q1) (ty := .array .int) C.1.1 C.1.2.1 C.1.2.2.2.2.1 ea_ix3 tyX3 tyX3_ok nmX3 C.1.2.2.2.1 hK hP hD hS 0 rfl rfl 3 (by decide) (C.1.2.2.2.2.1 _ wf2_X3_13) (fun _ h9 => h9) rfl C.2 rfl (by decide +kernel) rfl rfl (Nat.le_of_ble_eq_true rfl) dX3_init_10 (fun H locs hP hD hS => ?_)
  have hP : va_P E.2.2.1 ea_cl [(h0, .inr (3, [.null, .null, .null, .ref q1, .null, .null, .int 0, .int 0, .int 0, .int 0, .int 0, .null, .null, .null, .null])), (q1, .inl (E.2.1 0, 855, .inl (fun _ => 0)))] H := hP
  have hD : va_D (va_A [(h0, .inr (3, [.null, .null, .null, .null, .null, .null, .int 0, .int 0, .int 0, .int 0, .int 0, .null, .null, .null, .null]))] sz) [(h0, .inr (3, [.null, .null, .null, .ref q1, .null, .null, .int 0, .int 0, .int 0, .int 0, .int 0, .null, .null, .null, .null])), (q1, .inl (E.2.1 0, 855, .inl (fun _ => 0)))] := hD
  refine lv_aload_n C.1.1 C.1.2.1 dX3_init_13 rfl (lv_at hl 0 rfl) ?_
  refine lv_iconst (v := 3) C.1.1 C.1.2.1 dX3_init_14 (by decide) ?_
  refine eb_newa (atype := .int) (kt := 0) (ty := .int) (N' := 3) (a0 := (3, .inl (fun _ => 0))) C.1 wa_int rfl rfl (fun _ h => h) hK hP hD hS hA (fun _ => rfl) (by decide) (by decide) (by decide) (Nat.le_of_ble_eq_true rfl) (Nat.le_of_ble_eq_true rfl) dX3_init_15 (fun q2 H hP hD hS => ?_)
  have hP : va_P E.2.2.1 ea_cl [(h0, .inr (3, [.null, .null, .null, .ref q1, .null, .null, .int 0, .int 0, .int 0, .int 0, .int 0, .null, .null, .null, .null])), (q1, .inl (E.2.1 0, 855, .inl (fun _ => 0))), (q2, .inl (E.2.1 0, 3, .inl (fun _ => 0)))] H := hP
  have hD : va_D (va_A [(h0, .inr (3, [.null, .null, .null, .null, .null, .null, .int 0, .int 0, .int 0, .int 0, .int 0, .null, .null, .null, .null]))] sz) [(h0, .inr (3, [.null, .null, .null, .ref q1, .null, .null, .int 0, .int 0, .int 0, .int 0, .int 0, .null, .null, .null, .null])), (q1, .inl (E.2.1 0, 855, .inl (fun _ => 0))), (q2, .inl (E.2.1 0, 3, .inl (fun _ => 0)))] := hD
  refine W.widen (k := 2) (n := 858) (by decide) (by decide) ?_
  refine va_putF (v := .ref q2) (ty := .array .int) C.1.1 C.1.2.1 C.1.2.2.2.2.1 ea_ix3 tyX3 tyX3_ok nmX3 C.1.2.2.2.1 hK hP hD hS 0 rfl rfl 4 (by decide) (C.1.2.2.2.2.1 _ wf2_X3_19) (fun _ h9 => h9) rfl C.2 rfl (by decide +kernel) rfl rfl (Nat.le_of_ble_eq_true rfl) dX3_init_17 (fun H locs hP hD hS => ?_)
  have hP : va_P E.2.2.1 ea_cl [(h0, .inr (3, [.null, .null, .null, .ref q1, .ref q2, .null, .int 0, .int 0, .int 0, .int 0, .int 0, .null, .null, .null, .null])), (q1, .inl (E.2.1 0, 855, .inl (fun _ => 0))), (q2, .inl (E.2.1 0, 3, .inl (fun _ => 0)))] H := hP
  have hD : va_D (va_A [(h0, .inr (3, [.null, .null, .null, .null, .null, .null, .int 0, .int 0, .int 0, .int 0, .int 0, .null, .null, .null, .null]))] sz) [(h0, .inr (3, [.null, .null, .null, .ref q1, .ref q2, .null, .int 0, .int 0, .int 0, .int 0, .int 0, .null, .null, .null, .null])), (q1, .inl (E.2.1 0, 855, .inl (fun _ => 0))), (q2, .inl (E.2.1 0, 3, .inl (fun _ => 0)))] := hD
  refine lv_aload_n C.1.1 C.1.2.1 dX3_init_20 rfl (lv_at hl 0 rfl) ?_
  refine lv_iconst (v := 3) C.1.1 C.1.2.1 dX3_init_21 (by decide) ?_
  refine eb_newa (atype := .int) (kt := 0) (ty := .int) (N' := 3) (a0 := (3, .inl (fun _ => 0))) C.1 wa_int rfl rfl (fun _ h => h) hK hP hD hS hA (fun _ => rfl) (by decide) (by decide) (by decide) (Nat.le_of_ble_eq_true rfl) (Nat.le_of_ble_eq_true rfl) dX3_init_22 (fun q3 H hP hD hS => ?_)
  have hP : va_P E.2.2.1 ea_cl [(h0, .inr (3, [.null, .null, .null, .ref q1, .ref q2, .null, .int 0, .int 0, .int 0, .int 0, .int 0, .null, .null, .null, .null])), (q1, .inl (E.2.1 0, 855, .inl (fun _ => 0))), (q2, .inl (E.2.1 0, 3, .inl (fun _ => 0))), (q3, .inl (E.2.1 0, 3, .inl (fun _ => 0)))] H := hP
  have hD : va_D (va_A [(h0, .inr (3, [.null, .null, .null, .null, .null, .null, .int 0, .int 0, .int 0, .int 0, .int 0, .null, .null, .null, .null]))] sz) [(h0, .inr (3, [.null, .null, .null, .ref q1, .ref q2, .null, .int 0, .int 0, .int 0, .int 0, .int 0, .null, .null, .null, .null])), (q1, .inl (E.2.1 0, 855, .inl (fun _ => 0))), (q2, .inl (E.2.1 0, 3, .inl (fun _ => 0))), (q3, .inl (E.2.1 0, 3, .inl (fun _ => 0)))] := hD
  refine W.widen (k := 3) (n := 861) (by decide) (by decide) ?_
  refine va_putF (v := .ref q3) (ty := .array .int) C.1.1 C.1.2.1 C.1.2.2.2.2.1 ea_ix3 tyX3 tyX3_ok nmX3 C.1.2.2.2.1 hK hP hD hS 0 rfl rfl 5 (by decide) (C.1.2.2.2.2.1 _ wf2_X3_22) (fun _ h9 => h9) rfl C.2 rfl (by decide +kernel) rfl rfl (Nat.le_of_ble_eq_true rfl) dX3_init_24 (fun H locs hP hD hS => ?_)
  have hP : va_P E.2.2.1 ea_cl [(h0, .inr (3, [.null, .null, .null, .ref q1, .ref q2, .ref q3, .int 0, .int 0, .int 0, .int 0, .int 0, .null, .null, .null, .null])), (q1, .inl (E.2.1 0, 855, .inl (fun _ => 0))), (q2, .inl (E.2.1 0, 3, .inl (fun _ => 0))), (q3, .inl (E.2.1 0, 3, .inl (fun _ => 0)))] H := hP
  have hD : va_D (va_A [(h0, .inr (3, [.null, .null, .null, .null, .null, .null, .int 0, .int 0, .int 0, .int 0, .int 0, .null, .null, .null, .null]))] sz) [(h0, .inr (3, [.null, .null, .null, .ref q1, .ref q2, .ref q3, .int 0, .int 0, .int 0, .int 0, .int 0, .null, .null, .null, .null])), (q1, .inl (E.2.1 0, 855, .inl (fun _ => 0))), (q2, .inl (E.2.1 0, 3, .inl (fun _ => 0))), (q3, .inl (E.2.1 0, 3, .inl (fun _ => 0)))] := hD
  refine lv_aload_n C.1.1 C.1.2.1 dX3_init_27 rfl (lv_at hl 0 rfl) ?_
  refine lv_bipush (v := 22) C.1.1 C.1.2.1 dX3_init_28 (by decide) ?_
  refine eb_newa (atype := .int) (kt := 0) (ty := .int) (N' := 22) (a0 := (22, .inl (fun _ => 0))) C.1 wa_int rfl rfl (fun _ h => h) hK hP hD hS hA (fun _ => rfl) (by decide) (by decide) (by decide) (Nat.le_of_ble_eq_true rfl) (Nat.le_of_ble_eq_true rfl) dX3_init_30 (fun q4 H hP hD hS => ?_)
  have hP : va_P E.2.2.1 ea_cl [(h0, .inr (3, [.null, .null, .null, .ref q1, .ref q2, .ref q3, .int 0, .int 0, .int 0, .int 0, .int 0, .null, .null, .null, .null])), (q1, .inl (E.2.1 0, 855, .inl (fun _ => 0))), (q2, .inl (E.2.1 0, 3, .inl (fun _ => 0))), (q3, .inl (E.2.1 0, 3, .inl (fun _ => 0))), (q4, .inl (E.2.1 0, 22, .inl (fun _ => 0)))] H := hP
  have hD : va_D (va_A [(h0, .inr (3, [.null, .null, .null, .null, .null, .null, .int 0, .int 0, .int 0, .int 0, .int 0, .null, .null, .null, .null]))] sz) [(h0, .inr (3, [.null, .null, .null, .ref q1, .ref q2, .ref q3, .int 0, .int 0, .int 0, .int 0, .int 0, .null, .null, .null, .null])), (q1, .inl (E.2.1 0, 855, .inl (fun _ => 0))), (q2, .inl (E.2.1 0, 3, .inl (fun _ => 0))), (q3, .inl (E.2.1 0, 3, .inl (fun _ => 0))), (q4, .inl (E.2.1 0, 22, .inl (fun _ => 0)))] := hD
  refine W.widen (k := 4) (n := 883) (by decide) (by decide) ?_
  refine va_putF (v := .ref q4) (ty := .array .int) C.1.1 C.1.2.1 C.1.2.2.2.2.1 ea_ix3 tyX3 tyX3_ok nmX3 C.1.2.2.2.1 hK hP hD hS 0 rfl rfl 11 (by decide) (C.1.2.2.2.2.1 _ wf2_X3_25) (fun _ h9 => h9) rfl C.2 rfl (by decide +kernel) rfl rfl (Nat.le_of_ble_eq_true rfl) dX3_init_32 (fun H locs hP hD hS => ?_)
  have hP : va_P E.2.2.1 ea_cl [(h0, .inr (3, [.null, .null, .null, .ref q1, .ref q2, .ref q3, .int 0, .int 0, .int 0, .int 0, .int 0, .ref q4, .null, .null, .null])), (q1, .inl (E.2.1 0, 855, .inl (fun _ => 0))), (q2, .inl (E.2.1 0, 3, .inl (fun _ => 0))), (q3, .inl (E.2.1 0, 3, .inl (fun _ => 0))), (q4, .inl (E.2.1 0, 22, .inl (fun _ => 0)))] H := hP
  have hD : va_D (va_A [(h0, .inr (3, [.null, .null, .null, .null, .null, .null, .int 0, .int 0, .int 0, .int 0, .int 0, .null, .null, .null, .null]))] sz) [(h0, .inr (3, [.null, .null, .null, .ref q1, .ref q2, .ref q3, .int 0, .int 0, .int 0, .int 0, .int 0, .ref q4, .null, .null, .null])), (q1, .inl (E.2.1 0, 855, .inl (fun _ => 0))), (q2, .inl (E.2.1 0, 3, .inl (fun _ => 0))), (q3, .inl (E.2.1 0, 3, .inl (fun _ => 0))), (q4, .inl (E.2.1 0, 22, .inl (fun _ => 0)))] := hD
  refine lv_aload_n C.1.1 C.1.2.1 dX3_init_35 rfl (lv_at hl 0 rfl) ?_
  refine lv_bipush (v := 22) C.1.1 C.1.2.1 dX3_init_36 (by decide) ?_
  refine eb_newa (atype := .int) (kt := 0) (ty := .int) (N' := 22) (a0 := (22, .inl (fun _ => 0))) C.1 wa_int rfl rfl (fun _ h => h) hK hP hD hS hA (fun _ => rfl) (by decide) (by decide) (by decide) (Nat.le_of_ble_eq_true rfl) (Nat.le_of_ble_eq_true rfl) dX3_init_38 (fun q5 H hP hD hS => ?_)
  have hP : va_P E.2.2.1 ea_cl [(h0, .inr (3, [.null, .null, .null, .ref q1, .ref q2, .ref q3, .int 0, .int 0, .int 0, .int 0, .int 0, .ref q4, .null, .null, .null])), (q1, .inl (E.2.1 0, 855, .inl (fun _ => 0))), (q2, .inl (E.2.1 0, 3, .inl (fun _ => 0))), (q3, .inl (E.2.1 0, 3, .inl (fun _ => 0))), (q4, .inl (E.2.1 0, 22, .inl (fun _ => 0))), (q5, .inl (E.2.1 0, 22, .inl (fun _ => 0)))] H := hP
  have hD : va_D (va_A [(h0, .inr (3, [.null, .null, .null, .null, .null, .null, .int 0, .int 0, .int 0, .int 0, .int 0, .null, .null, .null, .null]))] sz) [(h0, .inr (3, [.null, .null, .null, .ref q1, .ref q2, .ref q3, .int 0, .int 0, .int 0, .int 0, .int 0, .ref q4, .null, .null, .null])), (q1, .inl (E.2.1 0, 855, .inl (fun _ => 0))), (q2, .inl (E.2.1 0, 3, .inl (fun _ => 0))), (q3, .inl (E.2.1 0, 3, .inl (fun _ => 0))), (q4, .inl (E.2.1 0, 22, .inl (fun _ => 0))), (q5, .inl (E.2.1 0, 22, .inl (fun _ => 0)))] := hD
  refine W.widen (k := 5) (n := 905) (by decide) (by decide) ?_
  refine va_putF (v := .ref q5) (ty := .array .int) C.1.1 C.1.2.1 C.1.2.2.2.2.1 ea_ix3 tyX3 tyX3_ok nmX3 C.1.2.2.2.1 hK hP hD hS 0 rfl rfl 12 (by decide) (C.1.2.2.2.2.1 _ wf2_X3_28) (fun _ h9 => h9) rfl C.2 rfl (by decide +kernel) rfl rfl (Nat.le_of_ble_eq_true rfl) dX3_init_40 (fun H locs hP hD hS => ?_)
  have hP : va_P E.2.2.1 ea_cl [(h0, .inr (3, [.null, .null, .null, .ref q1, .ref q2, .ref q3, .int 0, .int 0, .int 0, .int 0, .int 0, .ref q4, .ref q5, .null, .null])), (q1, .inl (E.2.1 0, 855, .inl (fun _ => 0))), (q2, .inl (E.2.1 0, 3, .inl (fun _ => 0))), (q3, .inl (E.2.1 0, 3, .inl (fun _ => 0))), (q4, .inl (E.2.1 0, 22, .inl (fun _ => 0))), (q5, .inl (E.2.1 0, 22, .inl (fun _ => 0)))] H := hP
  have hD : va_D (va_A [(h0, .inr (3, [.null, .null, .null, .null, .null, .null, .int 0, .int 0, .int 0, .int 0, .int 0, .null, .null, .null, .null]))] sz) [(h0, .inr (3, [.null, .null, .null, .ref q1, .ref q2, .ref q3, .int 0, .int 0, .int 0, .int 0, .int 0, .ref q4, .ref q5, .null, .null])), (q1, .inl (E.2.1 0, 855, .inl (fun _ => 0))), (q2, .inl (E.2.1 0, 3, .inl (fun _ => 0))), (q3, .inl (E.2.1 0, 3, .inl (fun _ => 0))), (q4, .inl (E.2.1 0, 22, .inl (fun _ => 0))), (q5, .inl (E.2.1 0, 22, .inl (fun _ => 0)))] := hD
  refine lv_aload_n C.1.1 C.1.2.1 dX3_init_43 rfl (lv_at hl 0 rfl) ?_
  refine lv_bipush (v := 66) C.1.1 C.1.2.1 dX3_init_44 (by decide) ?_
  refine eb_newa (atype := .int) (kt := 0) (ty := .int) (N' := 66) (a0 := (66, .inl (fun _ => 0))) C.1 wa_int rfl rfl (fun _ h => h) hK hP hD hS hA (fun _ => rfl) (by decide) (by decide) (by decide) (Nat.le_of_ble_eq_true rfl) (Nat.le_of_ble_eq_true rfl) dX3_init_46 (fun q6 H hP hD hS => ?_)
  have hP : va_P E.2.2.1 ea_cl [(h0, .inr (3, [.null, .null, .null, .ref q1, .ref q2, .ref q3, .int 0, .int 0, .int 0, .int 0, .int 0, .ref q4, .ref q5, .null, .null])), (q1, .inl (E.2.1 0, 855, .inl (fun _ => 0))), (q2, .inl (E.2.1 0, 3, .inl (fun _ => 0))), (q3, .inl (E.2.1 0, 3, .inl (fun _ => 0))), (q4, .inl (E.2.1 0, 22, .inl (fun _ => 0))), (q5, .inl (E.2.1 0, 22, .inl (fun _ => 0))), (q6, .inl (E.2.1 0, 66, .inl (fun _ => 0)))] H := hP
  have hD : va_D (va_A [(h0, .inr (3, [.null, .null, .null, .null, .null, .null, .int 0, .int 0, .int 0, .int 0, .int 0, .null, .null, .null, .null]))] sz) [(h0, .inr (3, [.null, .null, .null, .ref q1, .ref q2, .ref q3, .int 0, .int 0, .int 0, .int 0, .int 0, .ref q4, .ref q5, .null, .null])), (q1, .inl (E.2.1 0, 855, .inl (fun _ => 0))), (q2, .inl (E.2.1 0, 3, .inl (fun _ => 0))), (q3, .inl (E.2.1 0, 3, .inl (fun _ => 0))), (q4, .inl (E.2.1 0, 22, .inl (fun _ => 0))), (q5, .inl (E.2.1 0, 22, .inl (fun _ => 0))), (q6, .inl (E.2.1 0, 66, .inl (fun _ => 0)))] := hD
  refine W.widen (k := 6) (n := 971) (by decide) (by decide) ?_
  refine va_putF (v := .ref q6) (ty := .array .int) C.1.1 C.1.2.1 C.1.2.2.2.2.1 ea_ix3 tyX3 tyX3_ok nmX3 C.1.2.2.2.1 hK hP hD hS 0 rfl rfl 13 (by decide) (C.1.2.2.2.2.1 _ wf2_X3_31) (fun _ h9 => h9) rfl C.2 rfl (by decide +kernel) rfl rfl (Nat.le_of_ble_eq_true rfl) dX3_init_48 (fun H locs hP hD hS => ?_)
  have hP : va_P E.2.2.1 ea_cl [(h0, .inr (3, [.null, .null, .null, .ref q1, .ref q2, .ref q3, .int 0, .int 0, .int 0, .int 0, .int 0, .ref q4, .ref q5, .ref q6, .null])), (q1, .inl (E.2.1 0, 855, .inl (fun _ => 0))), (q2, .inl (E.2.1 0, 3, .inl (fun _ => 0))), (q3, .inl (E.2.1 0, 3, .inl (fun _ => 0))), (q4, .inl (E.2.1 0, 22, .inl (fun _ => 0))), (q5, .inl (E.2.1 0, 22, .inl (fun _ => 0))), (q6, .inl (E.2.1 0, 66, .inl (fun _ => 0)))] H := hP
  have hD : va_D (va_A [(h0, .inr (3, [.null, .null, .null, .null, .null, .null, .int 0, .int 0, .int 0, .int 0, .int 0, .null, .null, .null, .null]))] sz) [(h0, .inr (3, [.null, .null, .null, .ref q1, .ref q2, .ref q3, .int 0, .int 0, .int 0, .int 0, .int 0, .ref q4, .ref q5, .ref q6, .null])), (q1, .inl (E.2.1 0, 855, .inl (fun _ => 0))), (q2, .inl (E.2.1 0, 3, .inl (fun _ => 0))), (q3, .inl (E.2.1 0, 3, .inl (fun _ => 0))), (q4, .inl (E.2.1 0, 22, .inl (fun _ => 0))), (q5, .inl (E.2.1 0, 22, .inl (fun _ => 0))), (q6, .inl (E.2.1 0, 66, .inl (fun _ => 0)))] := hD
  refine lv_aload_n C.1.1 C.1.2.1 dX3_init_51 rfl (lv_at hl 0 rfl) ?_
  refine lv_bipush (v := 66) C.1.1 C.1.2.1 dX3_init_52 (by decide) ?_
  refine eb_newa (atype := .int) (kt := 0) (ty := .int) (N' := 66) (a0 := (66, .inl (fun _ => 0))) C.1 wa_int rfl rfl (fun _ h => h) hK hP hD hS hA (fun _ => rfl) (by decide) (by decide) (by decide) (Nat.le_of_ble_eq_true rfl) (Nat.le_of_ble_eq_true rfl) dX3_init_54 (fun q7 H hP hD hS => ?_)
  have hP : va_P E.2.2.1 ea_cl [(h0, .inr (3, [.null, .null, .null, .ref q1, .ref q2, .ref q3, .int 0, .int 0, .int 0, .int 0, .int 0, .ref q4, .ref q5, .ref q6, .null])), (q1, .inl (E.2.1 0, 855, .inl (fun _ => 0))), (q2, .inl (E.2.1 0, 3, .inl (fun _ => 0))), (q3, .inl (E.2.1 0, 3, .inl (fun _ => 0))), (q4, .inl (E.2.1 0, 22, .inl (fun _ => 0))), (q5, .inl (E.2.1 0, 22, .inl (fun _ => 0))), (q6, .inl (E.2.1 0, 66, .inl (fun _ => 0))), (q7, .inl (E.2.1 0, 66, .inl (fun _ => 0)))] H := hP
  have hD : va_D (va_A [(h0, .inr (3, [.null, .null, .null, .null, .null, .null, .int 0, .int 0, .int 0, .int 0, .int 0, .null, .null, .null, .null]))] sz) [(h0, .inr (3, [.null, .null, .null, .ref q1, .ref q2, .ref q3, .int 0, .int 0, .int 0, .int 0, .int 0, .ref q4, .ref q5, .ref q6, .null])), (q1, .inl (E.2.1 0, 855, .inl (fun _ => 0))), (q2, .inl (E.2.1 0, 3, .inl (fun _ => 0))), (q3, .inl (E.2.1 0, 3, .inl (fun _ => 0))), (q4, .inl (E.2.1 0, 22, .inl (fun _ => 0))), (q5, .inl (E.2.1 0, 22, .inl (fun _ => 0))), (q6, .inl (E.2.1 0, 66, .inl (fun _ => 0))), (q7, .inl (E.2.1 0, 66, .inl (fun _ => 0)))] := hD
  refine W.widen (k := 7) (n := 1037) (by decide) (by decide) ?_
  refine va_putF (v := .ref q7) (ty := .array .int) C.1.1 C.1.2.1 C.1.2.2.2.2.1 ea_ix3 tyX3 tyX3_ok nmX3 C.1.2.2.2.1 hK hP hD hS 0 rfl rfl 14 (by decide) (C.1.2.2.2.2.1 _ wf2_X3_34) (fun _ h9 => h9) rfl C.2 rfl (by decide +kernel) rfl rfl (Nat.le_of_ble_eq_true rfl) dX3_init_56 (fun H locs hP hD hS => ?_)
  have hP : va_P E.2.2.1 ea_cl [(h0, .inr (3, [.null, .null, .null, .ref q1, .ref q2, .ref q3, .int 0, .int 0, .int 0, .int 0, .int 0, .ref q4, .ref q5, .ref q6, .ref q7])), (q1, .inl (E.2.1 0, 855, .inl (fun _ => 0))), (q2, .inl (E.2.1 0, 3, .inl (fun _ => 0))), (q3, .inl (E.2.1 0, 3, .inl (fun _ => 0))), (q4, .inl (E.2.1 0, 22, .inl (fun _ => 0))), (q5, .inl (E.2.1 0, 22, .inl (fun _ => 0))), (q6, .inl (E.2.1 0, 66, .inl (fun _ => 0))), (q7, .inl (E.2.1 0, 66, .inl (fun _ => 0)))] H := hP
  have hD : va_D (va_A [(h0, .inr (3, [.null, .null, .null, .null, .null, .null, .int 0, .int 0, .int 0, .int 0, .int 0, .null, .null, .null, .null]))] sz) [(h0, .inr (3, [.null, .null, .null, .ref q1, .ref q2, .ref q3, .int 0, .int 0, .int 0, .int 0, .int 0, .ref q4, .ref q5, .ref q6, .ref q7])), (q1, .inl (E.2.1 0, 855, .inl (fun _ => 0))), (q2, .inl (E.2.1 0, 3, .inl (fun _ => 0))), (q3, .inl (E.2.1 0, 3, .inl (fun _ => 0))), (q4, .inl (E.2.1 0, 22, .inl (fun _ => 0))), (q5, .inl (E.2.1 0, 22, .inl (fun _ => 0))), (q6, .inl (E.2.1 0, 66, .inl (fun _ => 0))), (q7, .inl (E.2.1 0, 66, .inl (fun _ => 0)))] := hD
  refine lv_aload_n C.1.1 C.1.2.1 dX3_init_59 rfl (lv_at hl 0 rfl) ?_
  refine lv_aload_n C.1.1 C.1.2.1 dX3_init_60 rfl (lv_at hl 1 rfl) ?_
  refine va_putF (v := .ref p1) (ty := .object "ClothBack$Yarn") C.1.1 C.1.2.1 C.1.2.2.2.2.1 ea_ix3 tyX3 tyX3_ok nmX3 C.1.2.2.2.1 hK hP hD hS 0 rfl rfl 0 (by decide) (C.1.2.2.2.2.1 _ wf2_X3_37) (fun _ h9 => h9) rfl C.2 rfl (by decide +kernel) rfl rfl (Nat.le_of_ble_eq_true rfl) dX3_init_61 (fun H locs hP hD hS => ?_)
  have hP : va_P E.2.2.1 ea_cl [(h0, .inr (3, [.ref p1, .null, .null, .ref q1, .ref q2, .ref q3, .int 0, .int 0, .int 0, .int 0, .int 0, .ref q4, .ref q5, .ref q6, .ref q7])), (q1, .inl (E.2.1 0, 855, .inl (fun _ => 0))), (q2, .inl (E.2.1 0, 3, .inl (fun _ => 0))), (q3, .inl (E.2.1 0, 3, .inl (fun _ => 0))), (q4, .inl (E.2.1 0, 22, .inl (fun _ => 0))), (q5, .inl (E.2.1 0, 22, .inl (fun _ => 0))), (q6, .inl (E.2.1 0, 66, .inl (fun _ => 0))), (q7, .inl (E.2.1 0, 66, .inl (fun _ => 0)))] H := hP
  have hD : va_D (va_A [(h0, .inr (3, [.null, .null, .null, .null, .null, .null, .int 0, .int 0, .int 0, .int 0, .int 0, .null, .null, .null, .null]))] sz) [(h0, .inr (3, [.ref p1, .null, .null, .ref q1, .ref q2, .ref q3, .int 0, .int 0, .int 0, .int 0, .int 0, .ref q4, .ref q5, .ref q6, .ref q7])), (q1, .inl (E.2.1 0, 855, .inl (fun _ => 0))), (q2, .inl (E.2.1 0, 3, .inl (fun _ => 0))), (q3, .inl (E.2.1 0, 3, .inl (fun _ => 0))), (q4, .inl (E.2.1 0, 22, .inl (fun _ => 0))), (q5, .inl (E.2.1 0, 22, .inl (fun _ => 0))), (q6, .inl (E.2.1 0, 66, .inl (fun _ => 0))), (q7, .inl (E.2.1 0, 66, .inl (fun _ => 0)))] := hD
  refine lv_aload_n C.1.1 C.1.2.1 dX3_init_64 rfl (lv_at hl 0 rfl) ?_
  refine lv_aload_n C.1.1 C.1.2.1 dX3_init_65 rfl (lv_at hl 2 rfl) ?_
  refine va_putF (v := .ref p2) (ty := .object "ClothBack$Telling") C.1.1 C.1.2.1 C.1.2.2.2.2.1 ea_ix3 tyX3 tyX3_ok nmX3 C.1.2.2.2.1 hK hP hD hS 0 rfl rfl 1 (by decide) (C.1.2.2.2.2.1 _ wf2_X3_41) (fun _ h9 => h9) rfl C.2 rfl (by decide +kernel) rfl rfl (Nat.le_of_ble_eq_true rfl) dX3_init_66 (fun H locs hP hD hS => ?_)
  have hP : va_P E.2.2.1 ea_cl [(h0, .inr (3, [.ref p1, .ref p2, .null, .ref q1, .ref q2, .ref q3, .int 0, .int 0, .int 0, .int 0, .int 0, .ref q4, .ref q5, .ref q6, .ref q7])), (q1, .inl (E.2.1 0, 855, .inl (fun _ => 0))), (q2, .inl (E.2.1 0, 3, .inl (fun _ => 0))), (q3, .inl (E.2.1 0, 3, .inl (fun _ => 0))), (q4, .inl (E.2.1 0, 22, .inl (fun _ => 0))), (q5, .inl (E.2.1 0, 22, .inl (fun _ => 0))), (q6, .inl (E.2.1 0, 66, .inl (fun _ => 0))), (q7, .inl (E.2.1 0, 66, .inl (fun _ => 0)))] H := hP
  have hD : va_D (va_A [(h0, .inr (3, [.null, .null, .null, .null, .null, .null, .int 0, .int 0, .int 0, .int 0, .int 0, .null, .null, .null, .null]))] sz) [(h0, .inr (3, [.ref p1, .ref p2, .null, .ref q1, .ref q2, .ref q3, .int 0, .int 0, .int 0, .int 0, .int 0, .ref q4, .ref q5, .ref q6, .ref q7])), (q1, .inl (E.2.1 0, 855, .inl (fun _ => 0))), (q2, .inl (E.2.1 0, 3, .inl (fun _ => 0))), (q3, .inl (E.2.1 0, 3, .inl (fun _ => 0))), (q4, .inl (E.2.1 0, 22, .inl (fun _ => 0))), (q5, .inl (E.2.1 0, 22, .inl (fun _ => 0))), (q6, .inl (E.2.1 0, 66, .inl (fun _ => 0))), (q7, .inl (E.2.1 0, 66, .inl (fun _ => 0)))] := hD
  refine lv_aload_n C.1.1 C.1.2.1 dX3_init_69 rfl (lv_at hl 0 rfl) ?_
  refine va_new (ci := 5) (fs := [.null, .null]) (C := RX5) (T := TX5) (N := 2) C.1.1 C.1.2.1 C.1.2.2.2.2.1 ea_ix5 tyX5 tyX5_ok C.1.2.2.2.1 (C.1.2.2.2.2.1 _ wg_X3_45) (C.1.2.2.2.2.1 _ wI_5) (C.1.2.2.2.2.1 _ wi2_RX5) hK hP hD hS hA rfl (by decide) (Nat.le_of_ble_eq_true rfl) (Nat.le_of_ble_eq_true rfl) dX3_init_70 (fun q8 H hP hD hS => ?_)
  have hP : va_P E.2.2.1 ea_cl [(h0, .inr (3, [.ref p1, .ref p2, .null, .ref q1, .ref q2, .ref q3, .int 0, .int 0, .int 0, .int 0, .int 0, .ref q4, .ref q5, .ref q6, .ref q7])), (q1, .inl (E.2.1 0, 855, .inl (fun _ => 0))), (q2, .inl (E.2.1 0, 3, .inl (fun _ => 0))), (q3, .inl (E.2.1 0, 3, .inl (fun _ => 0))), (q4, .inl (E.2.1 0, 22, .inl (fun _ => 0))), (q5, .inl (E.2.1 0, 22, .inl (fun _ => 0))), (q6, .inl (E.2.1 0, 66, .inl (fun _ => 0))), (q7, .inl (E.2.1 0, 66, .inl (fun _ => 0))), (q8, .inr (5, [.null, .null]))] H := hP
  have hD : va_D (va_A [(h0, .inr (3, [.null, .null, .null, .null, .null, .null, .int 0, .int 0, .int 0, .int 0, .int 0, .null, .null, .null, .null]))] sz) [(h0, .inr (3, [.ref p1, .ref p2, .null, .ref q1, .ref q2, .ref q3, .int 0, .int 0, .int 0, .int 0, .int 0, .ref q4, .ref q5, .ref q6, .ref q7])), (q1, .inl (E.2.1 0, 855, .inl (fun _ => 0))), (q2, .inl (E.2.1 0, 3, .inl (fun _ => 0))), (q3, .inl (E.2.1 0, 3, .inl (fun _ => 0))), (q4, .inl (E.2.1 0, 22, .inl (fun _ => 0))), (q5, .inl (E.2.1 0, 22, .inl (fun _ => 0))), (q6, .inl (E.2.1 0, 66, .inl (fun _ => 0))), (q7, .inl (E.2.1 0, 66, .inl (fun _ => 0))), (q8, .inr (5, [.null, .null]))] := hD
  refine W.widen (k := 8) (n := 1039) (by decide) (by decide) ?_
  refine lv_dup C.1.1 C.1.2.1 dX3_init_73 rfl ?_
  refine lv_aload_n C.1.1 C.1.2.1 dX3_init_74 rfl (lv_at hl 1 rfl) ?_
  refine eb_join (y := yX5_init) (wc := [(q8, .inr (5, [.null, .null]))]) (wr := [(h0, .inr (3, [.ref p1, .ref p2, .null, .ref q1, .ref q2, .ref q3, .int 0, .int 0, .int 0, .int 0, .int 0, .ref q4, .ref q5, .ref q6, .ref q7])), (q1, .inl (E.2.1 0, 855, .inl (fun _ => 0))), (q2, .inl (E.2.1 0, 3, .inl (fun _ => 0))), (q3, .inl (E.2.1 0, 3, .inl (fun _ => 0))), (q4, .inl (E.2.1 0, 22, .inl (fun _ => 0))), (q5, .inl (E.2.1 0, 22, .inl (fun _ => 0))), (q6, .inl (E.2.1 0, 66, .inl (fun _ => 0))), (q7, .inl (E.2.1 0, 66, .inl (fun _ => 0)))]) hK hP hD hS hA [8] [0, 1, 2, 3, 4, 5, 6, 7] rfl rfl (by decide) (by decide) (eb_runI (n := 1) (rest := [.ref q8, .ref h0]) (As := [.ref p1]) C.1 (nX5_init (l := l) (E := E) (h0 := q8) (sz := H.size) (p1 := p1)) (eb_pre (wc := [(q8, .inr (5, [.null, .null]))]) (As := .ref q8 :: [.ref p1]) hK hP hD hS hA hF hN [8] rfl rfl (by decide)) wc2_X5_init wi2_RX5 wl2_X3_47 wv2_X5_init rfl (by decide +kernel) (by decide) rfl hl.1 rfl (Nat.le_of_ble_eq_true rfl) dX3_init_75 ⟨Nat.le_of_ble_eq_true rfl, Nat.le_of_ble_eq_true rfl⟩) (fun u9 H locs hP hD hS => ?_)
  have hP : va_P E.2.2.1 ea_cl [(h0, .inr (3, [.ref p1, .ref p2, .null, .ref q1, .ref q2, .ref q3, .int 0, .int 0, .int 0, .int 0, .int 0, .ref q4, .ref q5, .ref q6, .ref q7])), (q1, .inl (E.2.1 0, 855, .inl (fun _ => 0))), (q2, .inl (E.2.1 0, 3, .inl (fun _ => 0))), (q3, .inl (E.2.1 0, 3, .inl (fun _ => 0))), (q4, .inl (E.2.1 0, 22, .inl (fun _ => 0))), (q5, .inl (E.2.1 0, 22, .inl (fun _ => 0))), (q6, .inl (E.2.1 0, 66, .inl (fun _ => 0))), (q7, .inl (E.2.1 0, 66, .inl (fun _ => 0))), (q8, .inr (5, [.ref p1, .ref (u9 1)])), ((u9 1), .inl (E.2.1 0, 138, .inl (fun _ => 0)))] H := hP
  have hD : va_D (va_A [(h0, .inr (3, [.null, .null, .null, .null, .null, .null, .int 0, .int 0, .int 0, .int 0, .int 0, .null, .null, .null, .null]))] sz) [(h0, .inr (3, [.ref p1, .ref p2, .null, .ref q1, .ref q2, .ref q3, .int 0, .int 0, .int 0, .int 0, .int 0, .ref q4, .ref q5, .ref q6, .ref q7])), (q1, .inl (E.2.1 0, 855, .inl (fun _ => 0))), (q2, .inl (E.2.1 0, 3, .inl (fun _ => 0))), (q3, .inl (E.2.1 0, 3, .inl (fun _ => 0))), (q4, .inl (E.2.1 0, 22, .inl (fun _ => 0))), (q5, .inl (E.2.1 0, 22, .inl (fun _ => 0))), (q6, .inl (E.2.1 0, 66, .inl (fun _ => 0))), (q7, .inl (E.2.1 0, 66, .inl (fun _ => 0))), (q8, .inr (5, [.ref p1, .ref (u9 1)])), ((u9 1), .inl (E.2.1 0, 138, .inl (fun _ => 0)))] := hD
  refine W.widen (k := 9) (n := 1177) (by decide) (by decide) ?_
  refine va_putF (v := .ref q8) (ty := .object "ClothBack$Palette") C.1.1 C.1.2.1 C.1.2.2.2.2.1 ea_ix3 tyX3 tyX3_ok nmX3 C.1.2.2.2.1 hK hP hD hS 0 rfl rfl 2 (by decide) (C.1.2.2.2.2.1 _ wf2_X3_50) (fun _ h9 => h9) rfl C.2 rfl (by decide +kernel) rfl rfl (Nat.le_of_ble_eq_true rfl) dX3_init_78 (fun H locs hP hD hS => ?_)
  have hP : va_P E.2.2.1 ea_cl [(h0, .inr (3, [.ref p1, .ref p2, .ref q8, .ref q1, .ref q2, .ref q3, .int 0, .int 0, .int 0, .int 0, .int 0, .ref q4, .ref q5, .ref q6, .ref q7])), (q1, .inl (E.2.1 0, 855, .inl (fun _ => 0))), (q2, .inl (E.2.1 0, 3, .inl (fun _ => 0))), (q3, .inl (E.2.1 0, 3, .inl (fun _ => 0))), (q4, .inl (E.2.1 0, 22, .inl (fun _ => 0))), (q5, .inl (E.2.1 0, 22, .inl (fun _ => 0))), (q6, .inl (E.2.1 0, 66, .inl (fun _ => 0))), (q7, .inl (E.2.1 0, 66, .inl (fun _ => 0))), (q8, .inr (5, [.ref p1, .ref (u9 1)])), ((u9 1), .inl (E.2.1 0, 138, .inl (fun _ => 0)))] H := hP
  have hD : va_D (va_A [(h0, .inr (3, [.null, .null, .null, .null, .null, .null, .int 0, .int 0, .int 0, .int 0, .int 0, .null, .null, .null, .null]))] sz) [(h0, .inr (3, [.ref p1, .ref p2, .ref q8, .ref q1, .ref q2, .ref q3, .int 0, .int 0, .int 0, .int 0, .int 0, .ref q4, .ref q5, .ref q6, .ref q7])), (q1, .inl (E.2.1 0, 855, .inl (fun _ => 0))), (q2, .inl (E.2.1 0, 3, .inl (fun _ => 0))), (q3, .inl (E.2.1 0, 3, .inl (fun _ => 0))), (q4, .inl (E.2.1 0, 22, .inl (fun _ => 0))), (q5, .inl (E.2.1 0, 22, .inl (fun _ => 0))), (q6, .inl (E.2.1 0, 66, .inl (fun _ => 0))), (q7, .inl (E.2.1 0, 66, .inl (fun _ => 0))), (q8, .inr (5, [.ref p1, .ref (u9 1)])), ((u9 1), .inl (E.2.1 0, 138, .inl (fun _ => 0)))] := hD
  exact eb_ret (eb_ad [h0, q8, (u9 1), q1, q2, q3, q4, q5, q6, q7]) C (hP.sub [0, 8, 9, 1, 2, 3, 4, 5, 6, 7] rfl) hK (hD.sub [0, 8, 9, 1, 2, 3, 4, 5, 6, 7] (by decide) rfl) hS dX3_init_81
