theorem dX11_beside_136 : decode cX11_beside 136 = .ok (.iinc 6 1, 3) := by decide +kernel
theorem dX11_beside_139 : decode cX11_beside 139 = .ok (.iinc 8 1, 3) := by decide +kernel
theorem dX11_beside_142 : decode cX11_beside 142 = .ok (.goto (-81), 3) := by decide +kernel
theorem dX11_beside_145 : decode cX11_beside 145 = .ok (.iinc 7 1, 3) := by decide +kernel
theorem dX11_beside_148 : decode cX11_beside 148 = .ok (.goto (-106), 3) := by decide +kernel
theorem dX11_beside_151 : decode cX11_beside 151 = .ok (.iload 4, 2) := by decide +kernel
theorem dX11_beside_153 : decode cX11_beside 153 = .ok (.iconst 2, 1) := by decide +kernel
theorem dX11_beside_154 : decode cX11_beside 154 = .ok (.if_icmp .ne 6, 3) := by decide +kernel
theorem dX11_beside_157 : decode cX11_beside 157 = .ok (.iload 6, 2) := by decide +kernel
theorem dX11_beside_159 : decode cX11_beside 159 = .ok (.ireturn, 1) := by decide +kernel
theorem dX11_beside_160 : decode cX11_beside 160 = .ok (.iconst (-1), 1) := by decide +kernel
theorem dX11_beside_161 : decode cX11_beside 161 = .ok (.istore 7, 2) := by decide +kernel
theorem dX11_beside_163 : decode cX11_beside 163 = .ok (.iconst 0, 1) := by decide +kernel
theorem dX11_beside_164 : decode cX11_beside 164 = .ok (.istore 8, 2) := by decide +kernel
theorem dX11_beside_166 : decode cX11_beside 166 = .ok (.iconst 0, 1) := by decide +kernel
theorem dX11_beside_167 : decode cX11_beside 167 = .ok (.istore 9, 2) := by decide +kernel
theorem dX11_beside_169 : decode cX11_beside 169 = .ok (.iload 9, 2) := by decide +kernel
theorem dX11_beside_171 : decode cX11_beside 171 = .ok (.iload 6, 2) := by decide +kernel
theorem dX11_beside_173 : decode cX11_beside 173 = .ok (.if_icmp .ge 112, 3) := by decide +kernel
theorem dX11_beside_176 : decode cX11_beside 176 = .ok (.iconst 0, 1) := by decide +kernel
theorem dX11_beside_177 : decode cX11_beside 177 = .ok (.istore 10, 2) := by decide +kernel
theorem dX11_beside_179 : decode cX11_beside 179 = .ok (.iconst 0, 1) := by decide +kernel
theorem dX11_beside_180 : decode cX11_beside 180 = .ok (.istore 11, 2) := by decide +kernel
theorem dX11_beside_182 : decode cX11_beside 182 = .ok (.iload 11, 2) := by decide +kernel
theorem dX11_beside_184 : decode cX11_beside 184 = .ok (.iload 6, 2) := by decide +kernel
theorem dX11_beside_186 : decode cX11_beside 186 = .ok (.if_icmp .ge 46, 3) := by decide +kernel
theorem dX11_beside_189 : decode cX11_beside 189 = .ok (.aload_n 0, 1) := by decide +kernel
theorem dX11_beside_190 : decode cX11_beside 190 = .ok (.getfield 95, 3) := by decide +kernel
theorem dX11_beside_193 : decode cX11_beside 193 = .ok (.iload 9, 2) := by decide +kernel
theorem dX11_beside_195 : decode cX11_beside 195 = .ok (.iaload, 1) := by decide +kernel
theorem dX11_beside_196 : decode cX11_beside 196 = .ok (.ifCond .lt 36, 3) := by decide +kernel
theorem dX11_beside_199 : decode cX11_beside 199 = .ok (.iload 10, 2) := by decide +kernel
theorem dX11_beside_201 : decode cX11_beside 201 = .ok (.aload_n 0, 1) := by decide +kernel
theorem dX11_beside_202 : decode cX11_beside 202 = .ok (.getfield 95, 3) := by decide +kernel
theorem dX11_beside_205 : decode cX11_beside 205 = .ok (.iload 11, 2) := by decide +kernel
theorem dX11_beside_207 : decode cX11_beside 207 = .ok (.iaload, 1) := by decide +kernel
theorem dX11_beside_208 : decode cX11_beside 208 = .ok (.aload_n 0, 1) := by decide +kernel
theorem dX11_beside_209 : decode cX11_beside 209 = .ok (.getfield 95, 3) := by decide +kernel
theorem dX11_beside_212 : decode cX11_beside 212 = .ok (.iload 9, 2) := by decide +kernel
theorem dX11_beside_214 : decode cX11_beside 214 = .ok (.iaload, 1) := by decide +kernel
theorem dX11_beside_215 : decode cX11_beside 215 = .ok (.if_icmp .ne 7, 3) := by decide +kernel
theorem dX11_beside_218 : decode cX11_beside 218 = .ok (.iconst 1, 1) := by decide +kernel
theorem dX11_beside_219 : decode cX11_beside 219 = .ok (.goto 4, 3) := by decide +kernel
theorem dX11_beside_222 : decode cX11_beside 222 = .ok (.iconst 0, 1) := by decide +kernel
theorem dX11_beside_223 : decode cX11_beside 223 = .ok (.iadd, 1) := by decide +kernel
theorem dX11_beside_224 : decode cX11_beside 224 = .ok (.istore 10, 2) := by decide +kernel
theorem dX11_beside_226 : decode cX11_beside 226 = .ok (.iinc 11 1, 3) := by decide +kernel
theorem dX11_beside_229 : decode cX11_beside 229 = .ok (.goto (-47), 3) := by decide +kernel
theorem dX11_beside_232 : decode cX11_beside 232 = .ok (.iload 10, 2) := by decide +kernel
theorem dX11_beside_234 : decode cX11_beside 234 = .ok (.ifCond .eq 45, 3) := by decide +kernel
theorem dX11_beside_237 : decode cX11_beside 237 = .ok (.iload 10, 2) := by decide +kernel
theorem dX11_beside_239 : decode cX11_beside 239 = .ok (.iload 8, 2) := by decide +kernel
theorem dX11_beside_241 : decode cX11_beside 241 = .ok (.if_icmp .lt 38, 3) := by decide +kernel
theorem dX11_beside_244 : decode cX11_beside 244 = .ok (.iload 10, 2) := by decide +kernel
theorem dX11_beside_246 : decode cX11_beside 246 = .ok (.iload 8, 2) := by decide +kernel
theorem dX11_beside_248 : decode cX11_beside 248 = .ok (.if_icmp .ne 18, 3) := by decide +kernel
theorem dX11_beside_251 : decode cX11_beside 251 = .ok (.aload_n 0, 1) := by decide +kernel
theorem dX11_beside_252 : decode cX11_beside 252 = .ok (.getfield 95, 3) := by decide +kernel
theorem dX11_beside_255 : decode cX11_beside 255 = .ok (.iload 9, 2) := by decide +kernel
theorem dX11_beside_257 : decode cX11_beside 257 = .ok (.iaload, 1) := by decide +kernel
theorem dX11_beside_258 : decode cX11_beside 258 = .ok (.iload 7, 2) := by decide +kernel
theorem dX11_beside_260 : decode cX11_beside 260 = .ok (.if_icmp .lt 6, 3) := by decide +kernel
theorem dX11_beside_263 : decode cX11_beside 263 = .ok (.goto 16, 3) := by decide +kernel
theorem dX11_beside_266 : decode cX11_beside 266 = .ok (.aload_n 0, 1) := by decide +kernel
theorem dX11_beside_267 : decode cX11_beside 267 = .ok (.getfield 95, 3) := by decide +kernel
theorem dX11_beside_270 : decode cX11_beside 270 = .ok (.iload 9, 2) := by decide +kernel
theorem dX11_beside_272 : decode cX11_beside 272 = .ok (.iaload, 1) := by decide +kernel
theorem dX11_beside_273 : decode cX11_beside 273 = .ok (.istore 7, 2) := by decide +kernel
theorem dX11_beside_275 : decode cX11_beside 275 = .ok (.iload 10, 2) := by decide +kernel
theorem dX11_beside_277 : decode cX11_beside 277 = .ok (.istore 8, 2) := by decide +kernel
theorem dX11_beside_279 : decode cX11_beside 279 = .ok (.iinc 9 1, 3) := by decide +kernel
theorem dX11_beside_282 : decode cX11_beside 282 = .ok (.goto (-113), 3) := by decide +kernel
theorem dX11_beside_285 : decode cX11_beside 285 = .ok (.iload 4, 2) := by decide +kernel
theorem dX11_beside_287 : decode cX11_beside 287 = .ok (.ifCond .ne 8, 3) := by decide +kernel
theorem dX11_beside_290 : decode cX11_beside 290 = .ok (.iload 7, 2) := by decide +kernel
theorem dX11_beside_292 : decode cX11_beside 292 = .ok (.goto 5, 3) := by decide +kernel
theorem dX11_beside_295 : decode cX11_beside 295 = .ok (.iload 8, 2) := by decide +kernel
theorem dX11_beside_297 : decode cX11_beside 297 = .ok (.ireturn, 1) := by decide +kernel
theorem dX11_byteAt_0 : decode cX11_byteAt 0 = .ok (.iload_n 1, 1) := by decide +kernel
theorem dX11_byteAt_1 : decode cX11_byteAt 1 = .ok (.aload_n 0, 1) := by decide +kernel
theorem dX11_byteAt_2 : decode cX11_byteAt 2 = .ok (.getfield 113, 3) := by decide +kernel
theorem dX11_byteAt_5 : decode cX11_byteAt 5 = .ok (.if_icmp .ge 16, 3) := by decide +kernel
theorem dX11_byteAt_8 : decode cX11_byteAt 8 = .ok (.aload_n 0, 1) := by decide +kernel
theorem dX11_byteAt_9 : decode cX11_byteAt 9 = .ok (.getfield 7, 3) := by decide +kernel
theorem dX11_byteAt_12 : decode cX11_byteAt 12 = .ok (.iload_n 1, 1) := by decide +kernel
theorem dX11_byteAt_13 : decode cX11_byteAt 13 = .ok (.baload, 1) := by decide +kernel
theorem dX11_byteAt_14 : decode cX11_byteAt 14 = .ok (.sipush 255, 3) := by decide +kernel
theorem dX11_byteAt_17 : decode cX11_byteAt 17 = .ok (.iand, 1) := by decide +kernel
theorem dX11_byteAt_18 : decode cX11_byteAt 18 = .ok (.goto 4, 3) := by decide +kernel
theorem dX11_byteAt_21 : decode cX11_byteAt 21 = .ok (.iconst (-1), 1) := by decide +kernel
theorem dX11_byteAt_22 : decode cX11_byteAt 22 = .ok (.ireturn, 1) := by decide +kernel
theorem dX11_frontOf_0 : decode cX11_frontOf 0 = .ok (.aload_n 0, 1) := by decide +kernel
theorem dX11_frontOf_1 : decode cX11_frontOf 1 = .ok (.iload_n 1, 1) := by decide +kernel
theorem dX11_frontOf_2 : decode cX11_frontOf 2 = .ok (.iconst 0, 1) := by decide +kernel
theorem dX11_frontOf_3 : decode cX11_frontOf 3 = .ok (.sipush 999, 3) := by decide +kernel
theorem dX11_frontOf_6 : decode cX11_frontOf 6 = .ok (.invokevirtual 277, 3) := by decide +kernel
theorem dX11_frontOf_9 : decode cX11_frontOf 9 = .ok (.istore_n 2, 1) := by decide +kernel
theorem dX11_frontOf_10 : decode cX11_frontOf 10 = .ok (.iload_n 2, 1) := by decide +kernel
theorem dX11_frontOf_11 : decode cX11_frontOf 11 = .ok (.ifCond .lt 16, 3) := by decide +kernel
theorem dX11_frontOf_14 : decode cX11_frontOf 14 = .ok (.aload_n 0, 1) := by decide +kernel
theorem dX11_frontOf_15 : decode cX11_frontOf 15 = .ok (.getfield 55, 3) := by decide +kernel
theorem dX11_frontOf_18 : decode cX11_frontOf 18 = .ok (.iload_n 2, 1) := by decide +kernel
theorem dX11_frontOf_19 : decode cX11_frontOf 19 = .ok (.bipush 6, 2) := by decide +kernel
theorem dX11_frontOf_21 : decode cX11_frontOf 21 = .ok (.iadd, 1) := by decide +kernel
theorem dX11_frontOf_22 : decode cX11_frontOf 22 = .ok (.iaload, 1) := by decide +kernel
theorem dX11_frontOf_23 : decode cX11_frontOf 23 = .ok (.iconst 1, 1) := by decide +kernel
theorem dX11_frontOf_24 : decode cX11_frontOf 24 = .ok (.if_icmp .ne 7, 3) := by decide +kernel
theorem dX11_frontOf_27 : decode cX11_frontOf 27 = .ok (.iconst (-1), 1) := by decide +kernel
theorem dX11_frontOf_28 : decode cX11_frontOf 28 = .ok (.goto 6, 3) := by decide +kernel
theorem dX11_frontOf_31 : decode cX11_frontOf 31 = .ok (.iload_n 2, 1) := by decide +kernel
theorem dX11_frontOf_32 : decode cX11_frontOf 32 = .ok (.iconst 3, 1) := by decide +kernel
theorem dX11_frontOf_33 : decode cX11_frontOf 33 = .ok (.iadd, 1) := by decide +kernel
theorem dX11_frontOf_34 : decode cX11_frontOf 34 = .ok (.ireturn, 1) := by decide +kernel
theorem dX11_isEye_0 : decode cX11_isEye 0 = .ok (.iload_n 1, 1) := by decide +kernel
theorem dX11_isEye_1 : decode cX11_isEye 1 = .ok (.iconst 0, 1) := by decide +kernel
theorem dX11_isEye_2 : decode cX11_isEye 2 = .ok (.aload_n 0, 1) := by decide +kernel
theorem dX11_isEye_3 : decode cX11_isEye 3 = .ok (.getfield 17, 3) := by decide +kernel
theorem dX11_isEye_6 : decode cX11_isEye 6 = .ok (.bipush 6, 2) := by decide +kernel
theorem dX11_isEye_8 : decode cX11_isEye 8 = .ok (.iaload, 1) := by decide +kernel
theorem dX11_isEye_9 : decode cX11_isEye 9 = .ok (.iconst 1, 1) := by decide +kernel
theorem dX11_isEye_10 : decode cX11_isEye 10 = .ok (.isub, 1) := by decide +kernel
theorem dX11_isEye_11 : decode cX11_isEye 11 = .ok (.invokestatic 172, 3) := by decide +kernel
theorem dX11_isEye_14 : decode cX11_isEye 14 = .ok (.ireturn, 1) := by decide +kernel
theorem dX11_spanEnd_0 : decode cX11_spanEnd 0 = .ok (.iconst (-1), 1) := by decide +kernel
theorem dX11_spanEnd_1 : decode cX11_spanEnd 1 = .ok (.istore_n 3, 1) := by decide +kernel
theorem dX11_spanEnd_2 : decode cX11_spanEnd 2 = .ok (.iconst 0, 1) := by decide +kernel
theorem dX11_spanEnd_3 : decode cX11_spanEnd 3 = .ok (.istore 4, 2) := by decide +kernel
theorem dX11_spanEnd_5 : decode cX11_spanEnd 5 = .ok (.iload 4, 2) := by decide +kernel
theorem dX11_spanEnd_7 : decode cX11_spanEnd 7 = .ok (.aload_n 0, 1) := by decide +kernel
theorem dX11_spanEnd_8 : decode cX11_spanEnd 8 = .ok (.getfield 300, 3) := by decide +kernel
theorem dX11_spanEnd_11 : decode cX11_spanEnd 11 = .ok (.if_icmp .ge 51, 3) := by decide +kernel
theorem dX11_spanEnd_14 : decode cX11_spanEnd 14 = .ok (.aload_n 0, 1) := by decide +kernel
theorem dX11_spanEnd_15 : decode cX11_spanEnd 15 = .ok (.aload_n 0, 1) := by decide +kernel
theorem dX11_spanEnd_16 : decode cX11_spanEnd 16 = .ok (.getfield 71, 3) := by decide +kernel
theorem dX11_spanEnd_19 : decode cX11_spanEnd 19 = .ok (.iload 4, 2) := by decide +kernel
theorem dX11_spanEnd_21 : decode cX11_spanEnd 21 = .ok (.iaload, 1) := by decide +kernel
theorem dX11_spanEnd_22 : decode cX11_spanEnd 22 = .ok (.iconst 0, 1) := by decide +kernel
theorem dX11_spanEnd_23 : decode cX11_spanEnd 23 = .ok (.iload_n 1, 1) := by decide +kernel
theorem dX11_spanEnd_24 : decode cX11_spanEnd 24 = .ok (.invokevirtual 257, 3) := by decide +kernel
theorem dX11_spanEnd_27 : decode cX11_spanEnd 27 = .ok (.istore 5, 2) := by decide +kernel
theorem dX11_spanEnd_29 : decode cX11_spanEnd 29 = .ok (.iload_n 3, 1) := by decide +kernel
theorem dX11_spanEnd_30 : decode cX11_spanEnd 30 = .ok (.iconst (-1), 1) := by decide +kernel
theorem dX11_spanEnd_31 : decode cX11_spanEnd 31 = .ok (.if_icmp .eq 22, 3) := by decide +kernel
theorem dX11_spanEnd_34 : decode cX11_spanEnd 34 = .ok (.iload_n 2, 1) := by decide +kernel
theorem dX11_spanEnd_35 : decode cX11_spanEnd 35 = .ok (.ifCond .eq 12, 3) := by decide +kernel
theorem dX11_spanEnd_38 : decode cX11_spanEnd 38 = .ok (.iload 5, 2) := by decide +kernel
theorem dX11_spanEnd_40 : decode cX11_spanEnd 40 = .ok (.iload_n 3, 1) := by decide +kernel
theorem dX11_spanEnd_41 : decode cX11_spanEnd 41 = .ok (.if_icmp .le 15, 3) := by decide +kernel
theorem dX11_spanEnd_44 : decode cX11_spanEnd 44 = .ok (.goto 9, 3) := by decide +kernel
theorem dX11_spanEnd_47 : decode cX11_spanEnd 47 = .ok (.iload 5, 2) := by decide +kernel
theorem dX11_spanEnd_49 : decode cX11_spanEnd 49 = .ok (.iload_n 3, 1) := by decide +kernel
theorem dX11_spanEnd_50 : decode cX11_spanEnd 50 = .ok (.if_icmp .ge 6, 3) := by decide +kernel
theorem dX11_spanEnd_53 : decode cX11_spanEnd 53 = .ok (.iload 5, 2) := by decide +kernel
theorem dX11_spanEnd_55 : decode cX11_spanEnd 55 = .ok (.istore_n 3, 1) := by decide +kernel
theorem dX11_spanEnd_56 : decode cX11_spanEnd 56 = .ok (.iinc 4 1, 3) := by decide +kernel
theorem dX11_spanEnd_59 : decode cX11_spanEnd 59 = .ok (.goto (-54), 3) := by decide +kernel
theorem dX11_spanEnd_62 : decode cX11_spanEnd 62 = .ok (.iload_n 3, 1) := by decide +kernel
theorem dX11_spanEnd_63 : decode cX11_spanEnd 63 = .ok (.ireturn, 1) := by decide +kernel
theorem dX11_greyOf_0 : decode cX11_greyOf 0 = .ok (.aload_n 0, 1) := by decide +kernel
theorem dX11_greyOf_1 : decode cX11_greyOf 1 = .ok (.getfield 300, 3) := by decide +kernel
theorem dX11_greyOf_4 : decode cX11_greyOf 4 = .ok (.ifCond .ne 6, 3) := by decide +kernel
theorem dX11_greyOf_7 : decode cX11_greyOf 7 = .ok (.bipush 50, 2) := by decide +kernel
theorem dX11_greyOf_9 : decode cX11_greyOf 9 = .ok (.ireturn, 1) := by decide +kernel
theorem dX11_greyOf_10 : decode cX11_greyOf 10 = .ok (.iconst 0, 1) := by decide +kernel
theorem dX11_greyOf_11 : decode cX11_greyOf 11 = .ok (.istore_n 3, 1) := by decide +kernel
theorem dX11_greyOf_12 : decode cX11_greyOf 12 = .ok (.iload_n 3, 1) := by decide +kernel
theorem dX11_greyOf_13 : decode cX11_greyOf 13 = .ok (.iconst 3, 1) := by decide +kernel
theorem dX11_greyOf_14 : decode cX11_greyOf 14 = .ok (.if_icmp .ge 29, 3) := by decide +kernel
theorem dX11_greyOf_17 : decode cX11_greyOf 17 = .ok (.aload_n 0, 1) := by decide +kernel
theorem dX11_greyOf_18 : decode cX11_greyOf 18 = .ok (.iload_n 3, 1) := by decide +kernel
theorem dX11_greyOf_19 : decode cX11_greyOf 19 = .ok (.iconst 1, 1) := by decide +kernel
theorem dX11_greyOf_20 : decode cX11_greyOf 20 = .ok (.invokevirtual 316, 3) := by decide +kernel
theorem dX11_greyOf_23 : decode cX11_greyOf 23 = .ok (.aload_n 0, 1) := by decide +kernel
theorem dX11_greyOf_24 : decode cX11_greyOf 24 = .ok (.iload_n 3, 1) := by decide +kernel
theorem dX11_greyOf_25 : decode cX11_greyOf 25 = .ok (.iconst 0, 1) := by decide +kernel
theorem dX11_greyOf_26 : decode cX11_greyOf 26 = .ok (.invokevirtual 316, 3) := by decide +kernel
theorem dX11_greyOf_29 : decode cX11_greyOf 29 = .ok (.isub, 1) := by decide +kernel
theorem dX11_greyOf_30 : decode cX11_greyOf 30 = .ok (.iload_n 1, 1) := by decide +kernel
theorem dX11_greyOf_31 : decode cX11_greyOf 31 = .ok (.if_icmp .le 6, 3) := by decide +kernel
theorem dX11_greyOf_34 : decode cX11_greyOf 34 = .ok (.bipush 50, 2) := by decide +kernel
theorem dX11_greyOf_36 : decode cX11_greyOf 36 = .ok (.ireturn, 1) := by decide +kernel
theorem dX11_greyOf_37 : decode cX11_greyOf 37 = .ok (.iinc 3 1, 3) := by decide +kernel
theorem dX11_greyOf_40 : decode cX11_greyOf 40 = .ok (.goto (-28), 3) := by decide +kernel
theorem dX11_greyOf_43 : decode cX11_greyOf 43 = .ok (.aload_n 0, 1) := by decide +kernel
theorem dX11_greyOf_44 : decode cX11_greyOf 44 = .ok (.iload_n 2, 1) := by decide +kernel
theorem dX11_greyOf_45 : decode cX11_greyOf 45 = .ok (.iconst 0, 1) := by decide +kernel
theorem dX11_greyOf_46 : decode cX11_greyOf 46 = .ok (.invokevirtual 316, 3) := by decide +kernel
theorem dX11_greyOf_49 : decode cX11_greyOf 49 = .ok (.aload_n 0, 1) := by decide +kernel
theorem dX11_greyOf_50 : decode cX11_greyOf 50 = .ok (.iload_n 2, 1) := by decide +kernel
theorem dX11_greyOf_51 : decode cX11_greyOf 51 = .ok (.iconst 1, 1) := by decide +kernel
theorem dX11_greyOf_52 : decode cX11_greyOf 52 = .ok (.invokevirtual 316, 3) := by decide +kernel
theorem dX11_greyOf_55 : decode cX11_greyOf 55 = .ok (.iadd, 1) := by decide +kernel
theorem dX11_greyOf_56 : decode cX11_greyOf 56 = .ok (.iconst 2, 1) := by decide +kernel
theorem dX11_greyOf_57 : decode cX11_greyOf 57 = .ok (.idiv, 1) := by decide +kernel
theorem dX11_greyOf_58 : decode cX11_greyOf 58 = .ok (.ireturn, 1) := by decide +kernel
theorem dX11_seenBy_0 : decode cX11_seenBy 0 = .ok (.iconst 0, 1) := by decide +kernel
theorem dX11_seenBy_1 : decode cX11_seenBy 1 = .ok (.istore 4, 2) := by decide +kernel
theorem dX11_seenBy_3 : decode cX11_seenBy 3 = .ok (.iconst 0, 1) := by decide +kernel
theorem dX11_seenBy_4 : decode cX11_seenBy 4 = .ok (.istore 5, 2) := by decide +kernel
theorem dX11_seenBy_6 : decode cX11_seenBy 6 = .ok (.iload 5, 2) := by decide +kernel
theorem dX11_seenBy_8 : decode cX11_seenBy 8 = .ok (.iconst 3, 1) := by decide +kernel
theorem dX11_seenBy_9 : decode cX11_seenBy 9 = .ok (.if_icmp .ge 51, 3) := by decide +kernel
theorem dX11_seenBy_12 : decode cX11_seenBy 12 = .ok (.iload 4, 2) := by decide +kernel
theorem dX11_seenBy_14 : decode cX11_seenBy 14 = .ok (.aload_n 0, 1) := by decide +kernel
theorem dX11_seenBy_15 : decode cX11_seenBy 15 = .ok (.getfield 40, 3) := by decide +kernel
theorem dX11_seenBy_18 : decode cX11_seenBy 18 = .ok (.bipush 9, 2) := by decide +kernel
theorem dX11_seenBy_20 : decode cX11_seenBy 20 = .ok (.iload_n 1, 1) := by decide +kernel
theorem dX11_seenBy_21 : decode cX11_seenBy 21 = .ok (.imul, 1) := by decide +kernel
theorem dX11_seenBy_22 : decode cX11_seenBy 22 = .ok (.iconst 3, 1) := by decide +kernel
theorem dX11_seenBy_23 : decode cX11_seenBy 23 = .ok (.iload_n 2, 1) := by decide +kernel
theorem dX11_seenBy_24 : decode cX11_seenBy 24 = .ok (.imul, 1) := by decide +kernel
theorem dX11_seenBy_25 : decode cX11_seenBy 25 = .ok (.iadd, 1) := by decide +kernel
theorem dX11_seenBy_26 : decode cX11_seenBy 26 = .ok (.iload 5, 2) := by decide +kernel
theorem dX11_seenBy_28 : decode cX11_seenBy 28 = .ok (.iadd, 1) := by decide +kernel
theorem dX11_seenBy_29 : decode cX11_seenBy 29 = .ok (.iaload, 1) := by decide +kernel
theorem dX11_seenBy_30 : decode cX11_seenBy 30 = .ok (.aload_n 0, 1) := by decide +kernel
theorem dX11_seenBy_31 : decode cX11_seenBy 31 = .ok (.getfield 55, 3) := by decide +kernel
theorem dX11_seenBy_34 : decode cX11_seenBy 34 = .ok (.iload_n 3, 1) := by decide +kernel
theorem dX11_seenBy_35 : decode cX11_seenBy 35 = .ok (.iload 5, 2) := by decide +kernel
theorem dX11_seenBy_37 : decode cX11_seenBy 37 = .ok (.iadd, 1) := by decide +kernel
theorem dX11_seenBy_38 : decode cX11_seenBy 38 = .ok (.iaload, 1) := by decide +kernel
theorem dX11_seenBy_39 : decode cX11_seenBy 39 = .ok (.aload_n 0, 1) := by decide +kernel
theorem dX11_seenBy_40 : decode cX11_seenBy 40 = .ok (.getfield 101, 3) := by decide +kernel
theorem dX11_seenBy_43 : decode cX11_seenBy 43 = .ok (.iload 5, 2) := by decide +kernel
theorem dX11_seenBy_45 : decode cX11_seenBy 45 = .ok (.iaload, 1) := by decide +kernel
theorem dX11_seenBy_46 : decode cX11_seenBy 46 = .ok (.imul, 1) := by decide +kernel
theorem dX11_seenBy_47 : decode cX11_seenBy 47 = .ok (.bipush 100, 2) := by decide +kernel
theorem dX11_seenBy_49 : decode cX11_seenBy 49 = .ok (.idiv, 1) := by decide +kernel
theorem dX11_seenBy_50 : decode cX11_seenBy 50 = .ok (.imul, 1) := by decide +kernel
theorem dX11_seenBy_51 : decode cX11_seenBy 51 = .ok (.iadd, 1) := by decide +kernel
theorem dX11_seenBy_52 : decode cX11_seenBy 52 = .ok (.istore 4, 2) := by decide +kernel
theorem dX11_seenBy_54 : decode cX11_seenBy 54 = .ok (.iinc 5 1, 3) := by decide +kernel
theorem dX11_seenBy_57 : decode cX11_seenBy 57 = .ok (.goto (-51), 3) := by decide +kernel
theorem dX11_seenBy_60 : decode cX11_seenBy 60 = .ok (.iload 4, 2) := by decide +kernel
theorem dX11_seenBy_62 : decode cX11_seenBy 62 = .ok (.ireturn, 1) := by decide +kernel
theorem dX11_throwLight_0 : decode cX11_throwLight 0 = .ok (.aload_n 0, 1) := by decide +kernel
theorem dX11_throwLight_1 : decode cX11_throwLight 1 = .ok (.iload_n 1, 1) := by decide +kernel
theorem dX11_throwLight_2 : decode cX11_throwLight 2 = .ok (.iload 4, 2) := by decide +kernel
theorem dX11_throwLight_4 : decode cX11_throwLight 4 = .ok (.sipush 999, 3) := by decide +kernel
theorem dX11_throwLight_7 : decode cX11_throwLight 7 = .ok (.invokevirtual 313, 3) := by decide +kernel
theorem dX11_throwLight_10 : decode cX11_throwLight 10 = .ok (.iconst 0, 1) := by decide +kernel
theorem dX11_throwLight_11 : decode cX11_throwLight 11 = .ok (.istore 6, 2) := by decide +kernel
theorem dX11_throwLight_13 : decode cX11_throwLight 13 = .ok (.iload 6, 2) := by decide +kernel
theorem dX11_throwLight_15 : decode cX11_throwLight 15 = .ok (.iconst 3, 1) := by decide +kernel
theorem dX11_throwLight_16 : decode cX11_throwLight 16 = .ok (.if_icmp .ge 68, 3) := by decide +kernel
theorem dX11_throwLight_19 : decode cX11_throwLight 19 = .ok (.aload_n 0, 1) := by decide +kernel
theorem dX11_throwLight_20 : decode cX11_throwLight 20 = .ok (.getfield 98, 3) := by decide +kernel
theorem dX11_throwLight_23 : decode cX11_throwLight 23 = .ok (.iload 6, 2) := by decide +kernel
theorem dX11_throwLight_25 : decode cX11_throwLight 25 = .ok (.iconst 0, 1) := by decide +kernel
theorem dX11_throwLight_26 : decode cX11_throwLight 26 = .ok (.iastore, 1) := by decide +kernel
theorem dX11_throwLight_27 : decode cX11_throwLight 27 = .ok (.iconst 0, 1) := by decide +kernel
theorem dX11_throwLight_28 : decode cX11_throwLight 28 = .ok (.istore 7, 2) := by decide +kernel
theorem dX11_throwLight_30 : decode cX11_throwLight 30 = .ok (.iload 7, 2) := by decide +kernel
theorem dX11_throwLight_32 : decode cX11_throwLight 32 = .ok (.iconst 3, 1) := by decide +kernel
theorem dX11_throwLight_33 : decode cX11_throwLight 33 = .ok (.if_icmp .ge 45, 3) := by decide +kernel
theorem dX11_throwLight_36 : decode cX11_throwLight 36 = .ok (.aload_n 0, 1) := by decide +kernel
theorem dX11_throwLight_37 : decode cX11_throwLight 37 = .ok (.getfield 98, 3) := by decide +kernel
theorem dX11_throwLight_40 : decode cX11_throwLight 40 = .ok (.iload 6, 2) := by decide +kernel
theorem dX11_throwLight_42 : decode cX11_throwLight 42 = .ok (.dup2, 1) := by decide +kernel
theorem dX11_throwLight_43 : decode cX11_throwLight 43 = .ok (.iaload, 1) := by decide +kernel
theorem dX11_throwLight_44 : decode cX11_throwLight 44 = .ok (.aload_n 0, 1) := by decide +kernel
theorem dX11_throwLight_45 : decode cX11_throwLight 45 = .ok (.getfield 40, 3) := by decide +kernel
theorem dX11_throwLight_48 : decode cX11_throwLight 48 = .ok (.bipush 9, 2) := by decide +kernel
theorem dX11_throwLight_50 : decode cX11_throwLight 50 = .ok (.iload_n 3, 1) := by decide +kernel
theorem dX11_throwLight_51 : decode cX11_throwLight 51 = .ok (.imul, 1) := by decide +kernel
theorem dX11_throwLight_52 : decode cX11_throwLight 52 = .ok (.iconst 3, 1) := by decide +kernel
theorem dX11_throwLight_53 : decode cX11_throwLight 53 = .ok (.iload 6, 2) := by decide +kernel
theorem dX11_throwLight_55 : decode cX11_throwLight 55 = .ok (.imul, 1) := by decide +kernel
theorem dX11_throwLight_56 : decode cX11_throwLight 56 = .ok (.iadd, 1) := by decide +kernel
theorem dX11_throwLight_57 : decode cX11_throwLight 57 = .ok (.iload 7, 2) := by decide +kernel
theorem dX11_throwLight_59 : decode cX11_throwLight 59 = .ok (.iadd, 1) := by decide +kernel
theorem dX11_throwLight_60 : decode cX11_throwLight 60 = .ok (.iaload, 1) := by decide +kernel
theorem dX11_throwLight_61 : decode cX11_throwLight 61 = .ok (.aload_n 0, 1) := by decide +kernel
theorem dX11_throwLight_62 : decode cX11_throwLight 62 = .ok (.iload 5, 2) := by decide +kernel
theorem dX11_throwLight_64 : decode cX11_throwLight 64 = .ok (.iload 7, 2) := by decide +kernel
theorem dX11_throwLight_66 : decode cX11_throwLight 66 = .ok (.invokevirtual 323, 3) := by decide +kernel
theorem dX11_throwLight_69 : decode cX11_throwLight 69 = .ok (.imul, 1) := by decide +kernel
theorem dX11_throwLight_70 : decode cX11_throwLight 70 = .ok (.iadd, 1) := by decide +kernel
theorem dX11_throwLight_71 : decode cX11_throwLight 71 = .ok (.iastore, 1) := by decide +kernel
theorem dX11_throwLight_72 : decode cX11_throwLight 72 = .ok (.iinc 7 1, 3) := by decide +kernel
theorem dX11_throwLight_75 : decode cX11_throwLight 75 = .ok (.goto (-45), 3) := by decide +kernel
theorem dX11_throwLight_78 : decode cX11_throwLight 78 = .ok (.iinc 6 1, 3) := by decide +kernel
theorem dX11_throwLight_81 : decode cX11_throwLight 81 = .ok (.goto (-68), 3) := by decide +kernel
theorem dX11_throwLight_84 : decode cX11_throwLight 84 = .ok (.iconst 0, 1) := by decide +kernel
theorem dX11_throwLight_85 : decode cX11_throwLight 85 = .ok (.istore 6, 2) := by decide +kernel
theorem dX11_throwLight_87 : decode cX11_throwLight 87 = .ok (.iconst 0, 1) := by decide +kernel
theorem dX11_throwLight_88 : decode cX11_throwLight 88 = .ok (.istore 7, 2) := by decide +kernel
theorem dX11_throwLight_90 : decode cX11_throwLight 90 = .ok (.iconst 0, 1) := by decide +kernel
theorem dX11_throwLight_91 : decode cX11_throwLight 91 = .ok (.istore 8, 2) := by decide +kernel
theorem dX11_throwLight_93 : decode cX11_throwLight 93 = .ok (.iconst (-1), 1) := by decide +kernel
theorem dX11_throwLight_94 : decode cX11_throwLight 94 = .ok (.istore 9, 2) := by decide +kernel
theorem dX11_throwLight_96 : decode cX11_throwLight 96 = .ok (.aload_n 0, 1) := by decide +kernel
theorem dX11_throwLight_97 : decode cX11_throwLight 97 = .ok (.getfield 101, 3) := by decide +kernel
theorem dX11_throwLight_100 : decode cX11_throwLight 100 = .ok (.iconst 0, 1) := by decide +kernel
theorem dX11_throwLight_101 : decode cX11_throwLight 101 = .ok (.iconst 0, 1) := by decide +kernel
theorem dX11_throwLight_102 : decode cX11_throwLight 102 = .ok (.iastore, 1) := by decide +kernel
theorem dX11_throwLight_103 : decode cX11_throwLight 103 = .ok (.aload_n 0, 1) := by decide +kernel
theorem dX11_throwLight_104 : decode cX11_throwLight 104 = .ok (.getfield 101, 3) := by decide +kernel
theorem dX11_throwLight_107 : decode cX11_throwLight 107 = .ok (.iconst 0, 1) := by decide +kernel
theorem dX11_throwLight_108 : decode cX11_throwLight 108 = .ok (.iaload, 1) := by decide +kernel
theorem dX11_throwLight_109 : decode cX11_throwLight 109 = .ok (.aload_n 0, 1) := by decide +kernel
theorem dX11_throwLight_110 : decode cX11_throwLight 110 = .ok (.getfield 17, 3) := by decide +kernel
theorem dX11_throwLight_113 : decode cX11_throwLight 113 = .ok (.bipush 8, 2) := by decide +kernel
theorem dX11_throwLight_115 : decode cX11_throwLight 115 = .ok (.iaload, 1) := by decide +kernel
theorem dX11_throwLight_116 : decode cX11_throwLight 116 = .ok (.if_icmp .gt 240, 3) := by decide +kernel
theorem dX11_throwLight_119 : decode cX11_throwLight 119 = .ok (.aload_n 0, 1) := by decide +kernel
theorem dX11_throwLight_120 : decode cX11_throwLight 120 = .ok (.getfield 101, 3) := by decide +kernel
theorem dX11_throwLight_123 : decode cX11_throwLight 123 = .ok (.iconst 1, 1) := by decide +kernel
theorem dX11_throwLight_124 : decode cX11_throwLight 124 = .ok (.iconst 0, 1) := by decide +kernel
theorem dX11_throwLight_125 : decode cX11_throwLight 125 = .ok (.iastore, 1) := by decide +kernel
theorem dX11_throwLight_126 : decode cX11_throwLight 126 = .ok (.aload_n 0, 1) := by decide +kernel
theorem dX11_throwLight_127 : decode cX11_throwLight 127 = .ok (.getfield 101, 3) := by decide +kernel
theorem dX11_throwLight_130 : decode cX11_throwLight 130 = .ok (.iconst 1, 1) := by decide +kernel
theorem dX11_throwLight_131 : decode cX11_throwLight 131 = .ok (.iaload, 1) := by decide +kernel
theorem dX11_throwLight_132 : decode cX11_throwLight 132 = .ok (.aload_n 0, 1) := by decide +kernel
theorem dX11_throwLight_133 : decode cX11_throwLight 133 = .ok (.getfield 17, 3) := by decide +kernel
theorem dX11_throwLight_136 : decode cX11_throwLight 136 = .ok (.bipush 9, 2) := by decide +kernel
theorem dX11_throwLight_138 : decode cX11_throwLight 138 = .ok (.iaload, 1) := by decide +kernel
theorem dX11_throwLight_139 : decode cX11_throwLight 139 = .ok (.if_icmp .gt 203, 3) := by decide +kernel
theorem dX11_throwLight_142 : decode cX11_throwLight 142 = .ok (.aload_n 0, 1) := by decide +kernel
theorem dX11_throwLight_143 : decode cX11_throwLight 143 = .ok (.getfield 101, 3) := by decide +kernel
theorem dX11_throwLight_146 : decode cX11_throwLight 146 = .ok (.iconst 2, 1) := by decide +kernel
theorem dX11_throwLight_147 : decode cX11_throwLight 147 = .ok (.iconst 0, 1) := by decide +kernel
theorem dX11_throwLight_148 : decode cX11_throwLight 148 = .ok (.iastore, 1) := by decide +kernel
theorem dX11_throwLight_149 : decode cX11_throwLight 149 = .ok (.aload_n 0, 1) := by decide +kernel
theorem dX11_throwLight_150 : decode cX11_throwLight 150 = .ok (.getfield 101, 3) := by decide +kernel
theorem dX11_throwLight_153 : decode cX11_throwLight 153 = .ok (.iconst 2, 1) := by decide +kernel
theorem dX11_throwLight_154 : decode cX11_throwLight 154 = .ok (.iaload, 1) := by decide +kernel
theorem dX11_throwLight_155 : decode cX11_throwLight 155 = .ok (.aload_n 0, 1) := by decide +kernel
theorem dX11_throwLight_156 : decode cX11_throwLight 156 = .ok (.getfield 17, 3) := by decide +kernel
theorem dX11_throwLight_159 : decode cX11_throwLight 159 = .ok (.bipush 10, 2) := by decide +kernel
theorem dX11_throwLight_161 : decode cX11_throwLight 161 = .ok (.iaload, 1) := by decide +kernel
theorem dX11_throwLight_162 : decode cX11_throwLight 162 = .ok (.if_icmp .gt 166, 3) := by decide +kernel
theorem dX11_throwLight_165 : decode cX11_throwLight 165 = .ok (.iconst 0, 1) := by decide +kernel
theorem dX11_throwLight_166 : decode cX11_throwLight 166 = .ok (.istore 10, 2) := by decide +kernel
theorem dX11_throwLight_168 : decode cX11_throwLight 168 = .ok (.iconst 0, 1) := by decide +kernel
theorem dX11_throwLight_169 : decode cX11_throwLight 169 = .ok (.istore 11, 2) := by decide +kernel
theorem dX11_throwLight_171 : decode cX11_throwLight 171 = .ok (.iload 11, 2) := by decide +kernel
theorem dX11_throwLight_173 : decode cX11_throwLight 173 = .ok (.iconst 3, 1) := by decide +kernel
theorem dX11_throwLight_174 : decode cX11_throwLight 174 = .ok (.if_icmp .ge 46, 3) := by decide +kernel
theorem dX11_throwLight_177 : decode cX11_throwLight 177 = .ok (.aload_n 0, 1) := by decide +kernel
theorem dX11_throwLight_178 : decode cX11_throwLight 178 = .ok (.iload_n 3, 1) := by decide +kernel
theorem dX11_throwLight_179 : decode cX11_throwLight 179 = .ok (.iload 11, 2) := by decide +kernel
theorem dX11_throwLight_181 : decode cX11_throwLight 181 = .ok (.iload_n 2, 1) := by decide +kernel
theorem dX11_throwLight_182 : decode cX11_throwLight 182 = .ok (.invokevirtual 339, 3) := by decide +kernel
theorem dX11_throwLight_185 : decode cX11_throwLight 185 = .ok (.aload_n 0, 1) := by decide +kernel
theorem dX11_throwLight_186 : decode cX11_throwLight 186 = .ok (.getfield 98, 3) := by decide +kernel
theorem dX11_throwLight_189 : decode cX11_throwLight 189 = .ok (.iload 11, 2) := by decide +kernel
theorem dX11_throwLight_191 : decode cX11_throwLight 191 = .ok (.iaload, 1) := by decide +kernel
theorem dX11_throwLight_192 : decode cX11_throwLight 192 = .ok (.isub, 1) := by decide +kernel
theorem dX11_throwLight_193 : decode cX11_throwLight 193 = .ok (.invokestatic 290, 3) := by decide +kernel
theorem dX11_throwLight_196 : decode cX11_throwLight 196 = .ok (.istore 12, 2) := by decide +kernel
theorem dX11_throwLight_198 : decode cX11_throwLight 198 = .ok (.iload 12, 2) := by decide +kernel
theorem dX11_throwLight_200 : decode cX11_throwLight 200 = .ok (.iload 10, 2) := by decide +kernel
theorem dX11_throwLight_202 : decode cX11_throwLight 202 = .ok (.if_icmp .le 8, 3) := by decide +kernel
theorem dX11_throwLight_205 : decode cX11_throwLight 205 = .ok (.iload 12, 2) := by decide +kernel
theorem dX11_throwLight_207 : decode cX11_throwLight 207 = .ok (.goto 5, 3) := by decide +kernel
theorem dX11_throwLight_210 : decode cX11_throwLight 210 = .ok (.iload 10, 2) := by decide +kernel
theorem dX11_throwLight_212 : decode cX11_throwLight 212 = .ok (.istore 10, 2) := by decide +kernel
theorem dX11_throwLight_214 : decode cX11_throwLight 214 = .ok (.iinc 11 1, 3) := by decide +kernel
theorem dX11_throwLight_217 : decode cX11_throwLight 217 = .ok (.goto (-46), 3) := by decide +kernel
theorem dX11_throwLight_220 : decode cX11_throwLight 220 = .ok (.iload 9, 2) := by decide +kernel
theorem dX11_throwLight_222 : decode cX11_throwLight 222 = .ok (.iconst (-1), 1) := by decide +kernel
theorem dX11_throwLight_223 : decode cX11_throwLight 223 = .ok (.if_icmp .eq 48, 3) := by decide +kernel
theorem dX11_throwLight_226 : decode cX11_throwLight 226 = .ok (.iload 10, 2) := by decide +kernel
theorem dX11_throwLight_228 : decode cX11_throwLight 228 = .ok (.iload 9, 2) := by decide +kernel
theorem dX11_throwLight_230 : decode cX11_throwLight 230 = .ok (.if_icmp .lt 41, 3) := by decide +kernel
theorem dX11_throwLight_233 : decode cX11_throwLight 233 = .ok (.iload 10, 2) := by decide +kernel
theorem dX11_throwLight_235 : decode cX11_throwLight 235 = .ok (.iload 9, 2) := by decide +kernel
theorem dX11_throwLight_237 : decode cX11_throwLight 237 = .ok (.if_icmp .ne 38, 3) := by decide +kernel
theorem dX11_throwLight_240 : decode cX11_throwLight 240 = .ok (.aload_n 0, 1) := by decide +kernel
theorem dX11_throwLight_241 : decode cX11_throwLight 241 = .ok (.getfield 101, 3) := by decide +kernel
theorem dX11_throwLight_244 : decode cX11_throwLight 244 = .ok (.iconst 0, 1) := by decide +kernel
theorem dX11_throwLight_245 : decode cX11_throwLight 245 = .ok (.iaload, 1) := by decide +kernel
theorem dX11_throwLight_246 : decode cX11_throwLight 246 = .ok (.aload_n 0, 1) := by decide +kernel
theorem dX11_throwLight_247 : decode cX11_throwLight 247 = .ok (.getfield 101, 3) := by decide +kernel
theorem dX11_throwLight_250 : decode cX11_throwLight 250 = .ok (.iconst 1, 1) := by decide +kernel
theorem dX11_throwLight_251 : decode cX11_throwLight 251 = .ok (.iaload, 1) := by decide +kernel
theorem dX11_throwLight_252 : decode cX11_throwLight 252 = .ok (.iadd, 1) := by decide +kernel
theorem dX11_throwLight_253 : decode cX11_throwLight 253 = .ok (.aload_n 0, 1) := by decide +kernel
theorem dX11_throwLight_254 : decode cX11_throwLight 254 = .ok (.getfield 101, 3) := by decide +kernel
theorem dX11_throwLight_257 : decode cX11_throwLight 257 = .ok (.iconst 2, 1) := by decide +kernel
theorem dX11_throwLight_258 : decode cX11_throwLight 258 = .ok (.iaload, 1) := by decide +kernel
theorem dX11_throwLight_259 : decode cX11_throwLight 259 = .ok (.iadd, 1) := by decide +kernel
theorem dX11_throwLight_260 : decode cX11_throwLight 260 = .ok (.iload 6, 2) := by decide +kernel
theorem dX11_throwLight_262 : decode cX11_throwLight 262 = .ok (.iload 7, 2) := by decide +kernel
theorem dX11_throwLight_264 : decode cX11_throwLight 264 = .ok (.iadd, 1) := by decide +kernel
theorem dX11_throwLight_265 : decode cX11_throwLight 265 = .ok (.iload 8, 2) := by decide +kernel
theorem dX11_throwLight_267 : decode cX11_throwLight 267 = .ok (.iadd, 1) := by decide +kernel
theorem dX11_throwLight_268 : decode cX11_throwLight 268 = .ok (.if_icmp .ge 7, 3) := by decide +kernel
theorem dX11_throwLight_271 : decode cX11_throwLight 271 = .ok (.iconst 1, 1) := by decide +kernel
theorem dX11_throwLight_272 : decode cX11_throwLight 272 = .ok (.goto 4, 3) := by decide +kernel
theorem dX11_throwLight_275 : decode cX11_throwLight 275 = .ok (.iconst 0, 1) := by decide +kernel
theorem dX11_throwLight_276 : decode cX11_throwLight 276 = .ok (.istore 11, 2) := by decide +kernel
theorem dX11_throwLight_278 : decode cX11_throwLight 278 = .ok (.iload 11, 2) := by decide +kernel
theorem dX11_throwLight_280 : decode cX11_throwLight 280 = .ok (.ifCond .ne 6, 3) := by decide +kernel
theorem dX11_throwLight_283 : decode cX11_throwLight 283 = .ok (.goto 31, 3) := by decide +kernel
theorem dX11_throwLight_286 : decode cX11_throwLight 286 = .ok (.iload 10, 2) := by decide +kernel
theorem dX11_throwLight_288 : decode cX11_throwLight 288 = .ok (.istore 9, 2) := by decide +kernel
theorem dX11_throwLight_290 : decode cX11_throwLight 290 = .ok (.aload_n 0, 1) := by decide +kernel
theorem dX11_throwLight_291 : decode cX11_throwLight 291 = .ok (.getfield 101, 3) := by decide +kernel
theorem dX11_throwLight_294 : decode cX11_throwLight 294 = .ok (.iconst 0, 1) := by decide +kernel
theorem dX11_throwLight_295 : decode cX11_throwLight 295 = .ok (.iaload, 1) := by decide +kernel
theorem dX11_throwLight_296 : decode cX11_throwLight 296 = .ok (.istore 6, 2) := by decide +kernel
theorem dX11_throwLight_298 : decode cX11_throwLight 298 = .ok (.aload_n 0, 1) := by decide +kernel
theorem dX11_throwLight_299 : decode cX11_throwLight 299 = .ok (.getfield 101, 3) := by decide +kernel
theorem dX11_throwLight_302 : decode cX11_throwLight 302 = .ok (.iconst 1, 1) := by decide +kernel
theorem dX11_throwLight_303 : decode cX11_throwLight 303 = .ok (.iaload, 1) := by decide +kernel
theorem dX11_throwLight_304 : decode cX11_throwLight 304 = .ok (.istore 7, 2) := by decide +kernel
theorem dX11_throwLight_306 : decode cX11_throwLight 306 = .ok (.aload_n 0, 1) := by decide +kernel
theorem dX11_throwLight_307 : decode cX11_throwLight 307 = .ok (.getfield 101, 3) := by decide +kernel
theorem dX11_throwLight_310 : decode cX11_throwLight 310 = .ok (.iconst 2, 1) := by decide +kernel
theorem dX11_throwLight_311 : decode cX11_throwLight 311 = .ok (.iaload, 1) := by decide +kernel
theorem dX11_throwLight_312 : decode cX11_throwLight 312 = .ok (.istore 8, 2) := by decide +kernel
theorem dX11_throwLight_314 : decode cX11_throwLight 314 = .ok (.aload_n 0, 1) := by decide +kernel
theorem dX11_throwLight_315 : decode cX11_throwLight 315 = .ok (.getfield 101, 3) := by decide +kernel
theorem dX11_throwLight_318 : decode cX11_throwLight 318 = .ok (.iconst 2, 1) := by decide +kernel
theorem dX11_throwLight_319 : decode cX11_throwLight 319 = .ok (.dup2, 1) := by decide +kernel
theorem dX11_throwLight_320 : decode cX11_throwLight 320 = .ok (.iaload, 1) := by decide +kernel
theorem dX11_throwLight_321 : decode cX11_throwLight 321 = .ok (.bipush 10, 2) := by decide +kernel
theorem dX11_throwLight_323 : decode cX11_throwLight 323 = .ok (.iadd, 1) := by decide +kernel
theorem dX11_throwLight_324 : decode cX11_throwLight 324 = .ok (.iastore, 1) := by decide +kernel
theorem dX11_throwLight_325 : decode cX11_throwLight 325 = .ok (.goto (-176), 3) := by decide +kernel
theorem dX11_throwLight_328 : decode cX11_throwLight 328 = .ok (.aload_n 0, 1) := by decide +kernel
theorem dX11_throwLight_329 : decode cX11_throwLight 329 = .ok (.getfield 101, 3) := by decide +kernel
theorem dX11_throwLight_332 : decode cX11_throwLight 332 = .ok (.iconst 1, 1) := by decide +kernel
theorem dX11_throwLight_333 : decode cX11_throwLight 333 = .ok (.dup2, 1) := by decide +kernel
theorem dX11_throwLight_334 : decode cX11_throwLight 334 = .ok (.iaload, 1) := by decide +kernel
theorem dX11_throwLight_335 : decode cX11_throwLight 335 = .ok (.bipush 10, 2) := by decide +kernel
theorem dX11_throwLight_337 : decode cX11_throwLight 337 = .ok (.iadd, 1) := by decide +kernel
theorem dX11_throwLight_338 : decode cX11_throwLight 338 = .ok (.iastore, 1) := by decide +kernel
theorem dX11_throwLight_339 : decode cX11_throwLight 339 = .ok (.goto (-213), 3) := by decide +kernel
theorem dX11_throwLight_342 : decode cX11_throwLight 342 = .ok (.aload_n 0, 1) := by decide +kernel
theorem dX11_throwLight_343 : decode cX11_throwLight 343 = .ok (.getfield 101, 3) := by decide +kernel
theorem dX11_throwLight_346 : decode cX11_throwLight 346 = .ok (.iconst 0, 1) := by decide +kernel
theorem dX11_throwLight_347 : decode cX11_throwLight 347 = .ok (.dup2, 1) := by decide +kernel
theorem dX11_throwLight_348 : decode cX11_throwLight 348 = .ok (.iaload, 1) := by decide +kernel
theorem dX11_throwLight_349 : decode cX11_throwLight 349 = .ok (.bipush 10, 2) := by decide +kernel
theorem dX11_throwLight_351 : decode cX11_throwLight 351 = .ok (.iadd, 1) := by decide +kernel
theorem dX11_throwLight_352 : decode cX11_throwLight 352 = .ok (.iastore, 1) := by decide +kernel
theorem dX11_throwLight_353 : decode cX11_throwLight 353 = .ok (.goto (-250), 3) := by decide +kernel
theorem dX11_throwLight_356 : decode cX11_throwLight 356 = .ok (.aload_n 0, 1) := by decide +kernel
theorem dX11_throwLight_357 : decode cX11_throwLight 357 = .ok (.getfield 101, 3) := by decide +kernel
theorem dX11_throwLight_360 : decode cX11_throwLight 360 = .ok (.iconst 0, 1) := by decide +kernel
theorem dX11_throwLight_361 : decode cX11_throwLight 361 = .ok (.iload 6, 2) := by decide +kernel
theorem dX11_throwLight_363 : decode cX11_throwLight 363 = .ok (.iastore, 1) := by decide +kernel
theorem dX11_throwLight_364 : decode cX11_throwLight 364 = .ok (.aload_n 0, 1) := by decide +kernel
theorem dX11_throwLight_365 : decode cX11_throwLight 365 = .ok (.getfield 101, 3) := by decide +kernel
theorem dX11_throwLight_368 : decode cX11_throwLight 368 = .ok (.iconst 1, 1) := by decide +kernel
theorem dX11_throwLight_369 : decode cX11_throwLight 369 = .ok (.iload 7, 2) := by decide +kernel
theorem dX11_throwLight_371 : decode cX11_throwLight 371 = .ok (.iastore, 1) := by decide +kernel
theorem dX11_throwLight_372 : decode cX11_throwLight 372 = .ok (.aload_n 0, 1) := by decide +kernel
theorem dX11_throwLight_373 : decode cX11_throwLight 373 = .ok (.getfield 101, 3) := by decide +kernel
theorem dX11_throwLight_376 : decode cX11_throwLight 376 = .ok (.iconst 2, 1) := by decide +kernel
theorem dX11_throwLight_377 : decode cX11_throwLight 377 = .ok (.iload 8, 2) := by decide +kernel
theorem dX11_throwLight_379 : decode cX11_throwLight 379 = .ok (.iastore, 1) := by decide +kernel
theorem dX11_throwLight_380 : decode cX11_throwLight 380 = .ok (.aload_n 0, 1) := by decide +kernel
theorem dX11_throwLight_381 : decode cX11_throwLight 381 = .ok (.iload 9, 2) := by decide +kernel
theorem dX11_throwLight_383 : decode cX11_throwLight 383 = .ok (.putfield 342, 3) := by decide +kernel
theorem dX11_throwLight_386 : decode cX11_throwLight 386 = .ok (.return_, 1) := by decide +kernel
theorem dX11_cannot_0 : decode cX11_cannot 0 = .ok (.aload_n 0, 1) := by decide +kernel
theorem dX11_cannot_1 : decode cX11_cannot 1 = .ok (.iload_n 1, 1) := by decide +kernel
theorem dX11_cannot_2 : decode cX11_cannot 2 = .ok (.invokevirtual 345, 3) := by decide +kernel
theorem dX11_cannot_5 : decode cX11_cannot 5 = .ok (.ifCond .eq 30, 3) := by decide +kernel
theorem dX11_cannot_8 : decode cX11_cannot 8 = .ok (.aload_n 0, 1) := by decide +kernel
theorem dX11_cannot_9 : decode cX11_cannot 9 = .ok (.iload_n 2, 1) := by decide +kernel
theorem dX11_cannot_10 : decode cX11_cannot 10 = .ok (.invokevirtual 225, 3) := by decide +kernel
theorem dX11_cannot_13 : decode cX11_cannot 13 = .ok (.ifCond .eq 22, 3) := by decide +kernel
theorem dX11_cannot_16 : decode cX11_cannot 16 = .ok (.iload_n 3, 1) := by decide +kernel
theorem dX11_cannot_17 : decode cX11_cannot 17 = .ok (.invokestatic 320, 3) := by decide +kernel
theorem dX11_cannot_20 : decode cX11_cannot 20 = .ok (.ifCond .eq 15, 3) := by decide +kernel
theorem dX11_cannot_23 : decode cX11_cannot 23 = .ok (.iload 4, 2) := by decide +kernel
theorem dX11_cannot_25 : decode cX11_cannot 25 = .ok (.iconst 0, 1) := by decide +kernel
theorem dX11_cannot_26 : decode cX11_cannot 26 = .ok (.sipush 9999, 3) := by decide +kernel
theorem dX11_cannot_29 : decode cX11_cannot 29 = .ok (.invokestatic 172, 3) := by decide +kernel
theorem dX11_cannot_32 : decode cX11_cannot 32 = .ok (.ifCond .ne 6, 3) := by decide +kernel
theorem dX11_cannot_35 : decode cX11_cannot 35 = .ok (.bipush (-2), 2) := by decide +kernel
theorem dX11_cannot_37 : decode cX11_cannot 37 = .ok (.ireturn, 1) := by decide +kernel
theorem dX11_cannot_38 : decode cX11_cannot 38 = .ok (.iconst 0, 1) := by decide +kernel
theorem dX11_cannot_39 : decode cX11_cannot 39 = .ok (.istore 5, 2) := by decide +kernel
theorem dX11_cannot_41 : decode cX11_cannot 41 = .ok (.iconst 0, 1) := by decide +kernel
theorem dX11_cannot_42 : decode cX11_cannot 42 = .ok (.istore 6, 2) := by decide +kernel
theorem dX11_cannot_44 : decode cX11_cannot 44 = .ok (.iload 6, 2) := by decide +kernel
theorem dX11_cannot_46 : decode cX11_cannot 46 = .ok (.aload_n 0, 1) := by decide +kernel
theorem dX11_cannot_47 : decode cX11_cannot 47 = .ok (.invokevirtual 222, 3) := by decide +kernel
theorem dX11_cannot_50 : decode cX11_cannot 50 = .ok (.if_icmp .ge 55, 3) := by decide +kernel
theorem dX11_cannot_53 : decode cX11_cannot 53 = .ok (.aload_n 0, 1) := by decide +kernel
theorem dX11_cannot_54 : decode cX11_cannot 54 = .ok (.iload 6, 2) := by decide +kernel
theorem dX11_cannot_56 : decode cX11_cannot 56 = .ok (.invokevirtual 348, 3) := by decide +kernel
theorem dX11_cannot_59 : decode cX11_cannot 59 = .ok (.istore 7, 2) := by decide +kernel
theorem dX11_cannot_61 : decode cX11_cannot 61 = .ok (.iload 7, 2) := by decide +kernel
theorem dX11_cannot_63 : decode cX11_cannot 63 = .ok (.ifCond .ge 6, 3) := by decide +kernel
theorem dX11_cannot_66 : decode cX11_cannot 66 = .ok (.goto 33, 3) := by decide +kernel
theorem dX11_cannot_69 : decode cX11_cannot 69 = .ok (.aload_n 0, 1) := by decide +kernel
theorem dX11_cannot_70 : decode cX11_cannot 70 = .ok (.iload 6, 2) := by decide +kernel
theorem dX11_cannot_72 : decode cX11_cannot 72 = .ok (.iload 7, 2) := by decide +kernel
theorem dX11_cannot_74 : decode cX11_cannot 74 = .ok (.iload_n 1, 1) := by decide +kernel
theorem dX11_cannot_75 : decode cX11_cannot 75 = .ok (.iload_n 2, 1) := by decide +kernel
theorem dX11_cannot_76 : decode cX11_cannot 76 = .ok (.iload_n 3, 1) := by decide +kernel
theorem dX11_cannot_77 : decode cX11_cannot 77 = .ok (.invokevirtual 351, 3) := by decide +kernel
theorem dX11_cannot_80 : decode cX11_cannot 80 = .ok (.iload 5, 2) := by decide +kernel
theorem dX11_cannot_82 : decode cX11_cannot 82 = .ok (.aload_n 0, 1) := by decide +kernel
theorem dX11_cannot_83 : decode cX11_cannot 83 = .ok (.getfield 342, 3) := by decide +kernel
theorem dX11_cannot_86 : decode cX11_cannot 86 = .ok (.iload 4, 2) := by decide +kernel
theorem dX11_cannot_88 : decode cX11_cannot 88 = .ok (.if_icmp .le 7, 3) := by decide +kernel
theorem dX11_cannot_91 : decode cX11_cannot 91 = .ok (.iconst 1, 1) := by decide +kernel
theorem dX11_cannot_92 : decode cX11_cannot 92 = .ok (.goto 4, 3) := by decide +kernel
theorem dX11_cannot_95 : decode cX11_cannot 95 = .ok (.iconst 0, 1) := by decide +kernel
theorem dX11_cannot_96 : decode cX11_cannot 96 = .ok (.iadd, 1) := by decide +kernel
theorem dX11_cannot_97 : decode cX11_cannot 97 = .ok (.istore 5, 2) := by decide +kernel
theorem dX11_cannot_99 : decode cX11_cannot 99 = .ok (.iinc 6 1, 3) := by decide +kernel
theorem dX11_cannot_102 : decode cX11_cannot 102 = .ok (.goto (-58), 3) := by decide +kernel
theorem dX11_cannot_105 : decode cX11_cannot 105 = .ok (.iload 5, 2) := by decide +kernel
theorem dX11_cannot_107 : decode cX11_cannot 107 = .ok (.ireturn, 1) := by decide +kernel
theorem dX11_fails_0 : decode cX11_fails 0 = .ok (.aload_n 0, 1) := by decide +kernel
theorem dX11_fails_1 : decode cX11_fails 1 = .ok (.iload_n 1, 1) := by decide +kernel
theorem dX11_fails_2 : decode cX11_fails 2 = .ok (.putfield 166, 3) := by decide +kernel
theorem dX11_fails_5 : decode cX11_fails 5 = .ok (.aload_n 0, 1) := by decide +kernel
theorem dX11_fails_6 : decode cX11_fails 6 = .ok (.aload_n 0, 1) := by decide +kernel
theorem dX11_fails_7 : decode cX11_fails 7 = .ok (.getfield 135, 3) := by decide +kernel
theorem dX11_fails_10 : decode cX11_fails 10 = .ok (.putfield 13, 3) := by decide +kernel
theorem dX11_fails_13 : decode cX11_fails 13 = .ok (.iconst 0, 1) := by decide +kernel
theorem dX11_fails_14 : decode cX11_fails 14 = .ok (.ireturn, 1) := by decide +kernel
theorem dX11_isKey_0 : decode cX11_isKey 0 = .ok (.aload_n 0, 1) := by decide +kernel
theorem dX11_isKey_1 : decode cX11_isKey 1 = .ok (.getfield 141, 3) := by decide +kernel
theorem dX11_isKey_4 : decode cX11_isKey 4 = .ok (.iconst 1, 1) := by decide +kernel
theorem dX11_isKey_5 : decode cX11_isKey 5 = .ok (.if_icmp .ne 15, 3) := by decide +kernel
theorem dX11_isKey_8 : decode cX11_isKey 8 = .ok (.aload_n 0, 1) := by decide +kernel
theorem dX11_isKey_9 : decode cX11_isKey 9 = .ok (.getfield 138, 3) := by decide +kernel
theorem dX11_isKey_12 : decode cX11_isKey 12 = .ok (.iload_n 1, 1) := by decide +kernel
theorem dX11_isKey_13 : decode cX11_isKey 13 = .ok (.if_icmp .ne 7, 3) := by decide +kernel
theorem dX11_isKey_16 : decode cX11_isKey 16 = .ok (.iconst 1, 1) := by decide +kernel
theorem dX11_isKey_17 : decode cX11_isKey 17 = .ok (.goto 4, 3) := by decide +kernel
theorem dX11_isKey_20 : decode cX11_isKey 20 = .ok (.iconst 0, 1) := by decide +kernel
theorem dX11_isKey_21 : decode cX11_isKey 21 = .ok (.ireturn, 1) := by decide +kernel
theorem dX11_isDigit_0 : decode cX11_isDigit 0 = .ok (.iload_n 0, 1) := by decide +kernel
theorem dX11_isDigit_1 : decode cX11_isDigit 1 = .ok (.bipush 48, 2) := by decide +kernel
theorem dX11_isDigit_3 : decode cX11_isDigit 3 = .ok (.if_icmp .lt 13, 3) := by decide +kernel
theorem dX11_isDigit_6 : decode cX11_isDigit 6 = .ok (.iload_n 0, 1) := by decide +kernel
theorem dX11_isDigit_7 : decode cX11_isDigit 7 = .ok (.bipush 57, 2) := by decide +kernel
theorem dX11_isDigit_9 : decode cX11_isDigit 9 = .ok (.if_icmp .gt 7, 3) := by decide +kernel
theorem dX11_isDigit_12 : decode cX11_isDigit 12 = .ok (.iconst 1, 1) := by decide +kernel
theorem dX11_isDigit_13 : decode cX11_isDigit 13 = .ok (.goto 4, 3) := by decide +kernel
theorem dX11_isDigit_16 : decode cX11_isDigit 16 = .ok (.iconst 0, 1) := by decide +kernel
theorem dX11_isDigit_17 : decode cX11_isDigit 17 = .ok (.ireturn, 1) := by decide +kernel
theorem dX11_isSmall_0 : decode cX11_isSmall 0 = .ok (.iload_n 0, 1) := by decide +kernel
theorem dX11_isSmall_1 : decode cX11_isSmall 1 = .ok (.bipush 97, 2) := by decide +kernel
theorem dX11_isSmall_3 : decode cX11_isSmall 3 = .ok (.if_icmp .lt 13, 3) := by decide +kernel
theorem dX11_isSmall_6 : decode cX11_isSmall 6 = .ok (.iload_n 0, 1) := by decide +kernel
theorem dX11_isSmall_7 : decode cX11_isSmall 7 = .ok (.bipush 122, 2) := by decide +kernel
theorem dX11_isSmall_9 : decode cX11_isSmall 9 = .ok (.if_icmp .gt 7, 3) := by decide +kernel
theorem dX11_isSmall_12 : decode cX11_isSmall 12 = .ok (.iconst 1, 1) := by decide +kernel
theorem dX11_isSmall_13 : decode cX11_isSmall 13 = .ok (.goto 4, 3) := by decide +kernel
theorem dX11_isSmall_16 : decode cX11_isSmall 16 = .ok (.iconst 0, 1) := by decide +kernel
theorem dX11_isSmall_17 : decode cX11_isSmall 17 = .ok (.ireturn, 1) := by decide +kernel
theorem dX11_comes_0 : decode cX11_comes 0 = .ok (.iconst 0, 1) := by decide +kernel
theorem dX11_comes_1 : decode cX11_comes 1 = .ok (.istore_n 2, 1) := by decide +kernel
theorem dX11_comes_2 : decode cX11_comes 2 = .ok (.iload_n 2, 1) := by decide +kernel
theorem dX11_comes_3 : decode cX11_comes 3 = .ok (.iload_n 1, 1) := by decide +kernel
theorem dX11_comes_4 : decode cX11_comes 4 = .ok (.if_icmp .ge 17, 3) := by decide +kernel
theorem dX11_comes_7 : decode cX11_comes 7 = .ok (.aload_n 0, 1) := by decide +kernel
theorem dX11_comes_8 : decode cX11_comes 8 = .ok (.iload_n 2, 1) := by decide +kernel
theorem dX11_comes_9 : decode cX11_comes 9 = .ok (.aload_n 0, 1) := by decide +kernel
theorem dX11_comes_10 : decode cX11_comes 10 = .ok (.iload_n 1, 1) := by decide +kernel
theorem dX11_comes_11 : decode cX11_comes 11 = .ok (.iload_n 2, 1) := by decide +kernel
theorem dX11_comes_12 : decode cX11_comes 12 = .ok (.iadd, 1) := by decide +kernel
theorem dX11_comes_13 : decode cX11_comes 13 = .ok (.iaload, 1) := by decide +kernel
theorem dX11_comes_14 : decode cX11_comes 14 = .ok (.iastore, 1) := by decide +kernel
theorem dX11_comes_15 : decode cX11_comes 15 = .ok (.iinc 2 1, 3) := by decide +kernel
theorem dX11_comes_18 : decode cX11_comes 18 = .ok (.goto (-16), 3) := by decide +kernel
theorem dX11_comes_21 : decode cX11_comes 21 = .ok (.return_, 1) := by decide +kernel
theorem dX11_settle_0 : decode cX11_settle 0 = .ok (.aload_n 0, 1) := by decide +kernel
theorem dX11_settle_1 : decode cX11_settle 1 = .ok (.getfield 17, 3) := by decide +kernel
theorem dX11_settle_4 : decode cX11_settle 4 = .ok (.bipush 14, 2) := by decide +kernel
theorem dX11_settle_6 : decode cX11_settle 6 = .ok (.invokestatic 185, 3) := by decide +kernel
theorem dX11_settle_9 : decode cX11_settle 9 = .ok (.aload_n 0, 1) := by decide +kernel
theorem dX11_settle_10 : decode cX11_settle 10 = .ok (.getfield 31, 3) := by decide +kernel
theorem dX11_settle_13 : decode cX11_settle 13 = .ok (.bipush 30, 2) := by decide +kernel
theorem dX11_settle_15 : decode cX11_settle 15 = .ok (.invokestatic 185, 3) := by decide +kernel
theorem dX11_settle_18 : decode cX11_settle 18 = .ok (.aload_n 0, 1) := by decide +kernel
theorem dX11_settle_19 : decode cX11_settle 19 = .ok (.getfield 34, 3) := by decide +kernel
theorem dX11_settle_22 : decode cX11_settle 22 = .ok (.iconst 4, 1) := by decide +kernel
theorem dX11_settle_23 : decode cX11_settle 23 = .ok (.invokestatic 185, 3) := by decide +kernel
theorem dX11_settle_26 : decode cX11_settle 26 = .ok (.aload_n 0, 1) := by decide +kernel
theorem dX11_settle_27 : decode cX11_settle 27 = .ok (.getfield 37, 3) := by decide +kernel
theorem dX11_settle_30 : decode cX11_settle 30 = .ok (.bipush 96, 2) := by decide +kernel
theorem dX11_settle_32 : decode cX11_settle 32 = .ok (.invokestatic 185, 3) := by decide +kernel
theorem dX11_settle_35 : decode cX11_settle 35 = .ok (.aload_n 0, 1) := by decide +kernel
theorem dX11_settle_36 : decode cX11_settle 36 = .ok (.getfield 40, 3) := by decide +kernel
theorem dX11_settle_39 : decode cX11_settle 39 = .ok (.bipush 18, 2) := by decide +kernel
theorem dX11_settle_41 : decode cX11_settle 41 = .ok (.invokestatic 185, 3) := by decide +kernel
theorem dX11_settle_44 : decode cX11_settle 44 = .ok (.iconst 0, 1) := by decide +kernel
theorem dX11_settle_45 : decode cX11_settle 45 = .ok (.istore_n 1, 1) := by decide +kernel
theorem dX11_settle_46 : decode cX11_settle 46 = .ok (.iload_n 1, 1) := by decide +kernel
theorem dX11_settle_47 : decode cX11_settle 47 = .ok (.sipush 854, 3) := by decide +kernel
theorem dX11_settle_50 : decode cX11_settle 50 = .ok (.if_icmp .ge 16, 3) := by decide +kernel
theorem dX11_settle_53 : decode cX11_settle 53 = .ok (.aload_n 0, 1) := by decide +kernel
theorem dX11_settle_54 : decode cX11_settle 54 = .ok (.getfield 55, 3) := by decide +kernel
theorem dX11_settle_57 : decode cX11_settle 57 = .ok (.iload_n 1, 1) := by decide +kernel
theorem dX11_settle_58 : decode cX11_settle 58 = .ok (.iconst 0, 1) := by decide +kernel
theorem dX11_settle_59 : decode cX11_settle 59 = .ok (.iastore, 1) := by decide +kernel
theorem dX11_settle_60 : decode cX11_settle 60 = .ok (.iinc 1 1, 3) := by decide +kernel
theorem dX11_settle_63 : decode cX11_settle 63 = .ok (.goto (-17), 3) := by decide +kernel
theorem dX11_settle_66 : decode cX11_settle 66 = .ok (.iconst 0, 1) := by decide +kernel
theorem dX11_settle_67 : decode cX11_settle 67 = .ok (.istore_n 1, 1) := by decide +kernel
theorem dX11_settle_68 : decode cX11_settle 68 = .ok (.iload_n 1, 1) := by decide +kernel
theorem dX11_settle_69 : decode cX11_settle 69 = .ok (.iconst 3, 1) := by decide +kernel
theorem dX11_settle_70 : decode cX11_settle 70 = .ok (.if_icmp .ge 16, 3) := by decide +kernel
theorem dX11_settle_73 : decode cX11_settle 73 = .ok (.aload_n 0, 1) := by decide +kernel
theorem dX11_settle_74 : decode cX11_settle 74 = .ok (.getfield 58, 3) := by decide +kernel
theorem dX11_settle_77 : decode cX11_settle 77 = .ok (.iload_n 1, 1) := by decide +kernel
theorem dX11_settle_78 : decode cX11_settle 78 = .ok (.iconst 0, 1) := by decide +kernel
theorem dX11_settle_79 : decode cX11_settle 79 = .ok (.bastore, 1) := by decide +kernel
theorem dX11_settle_80 : decode cX11_settle 80 = .ok (.iinc 1 1, 3) := by decide +kernel
theorem dX11_settle_83 : decode cX11_settle 83 = .ok (.goto (-15), 3) := by decide +kernel
theorem dX11_settle_86 : decode cX11_settle 86 = .ok (.aload_n 0, 1) := by decide +kernel
theorem dX11_settle_87 : decode cX11_settle 87 = .ok (.iconst 0, 1) := by decide +kernel
theorem dX11_settle_88 : decode cX11_settle 88 = .ok (.putfield 189, 3) := by decide +kernel
theorem dX11_settle_91 : decode cX11_settle 91 = .ok (.iconst 0, 1) := by decide +kernel
theorem dX11_settle_92 : decode cX11_settle 92 = .ok (.istore_n 1, 1) := by decide +kernel
theorem dX11_settle_93 : decode cX11_settle 93 = .ok (.iload_n 1, 1) := by decide +kernel
theorem dX11_settle_94 : decode cX11_settle 94 = .ok (.aload_n 0, 1) := by decide +kernel
theorem dX11_settle_95 : decode cX11_settle 95 = .ok (.getfield 17, 3) := by decide +kernel
theorem dX11_settle_98 : decode cX11_settle 98 = .ok (.iconst 4, 1) := by decide +kernel
theorem dX11_settle_99 : decode cX11_settle 99 = .ok (.iaload, 1) := by decide +kernel
theorem dX11_settle_100 : decode cX11_settle 100 = .ok (.if_icmp .ge 31, 3) := by decide +kernel
theorem dX11_settle_103 : decode cX11_settle 103 = .ok (.iconst 1, 1) := by decide +kernel
theorem dX11_settle_104 : decode cX11_settle 104 = .ok (.istore_n 2, 1) := by decide +kernel
theorem dX11_settle_105 : decode cX11_settle 105 = .ok (.iload_n 2, 1) := by decide +kernel
theorem dX11_settle_106 : decode cX11_settle 106 = .ok (.bipush 10, 2) := by decide +kernel
theorem dX11_settle_108 : decode cX11_settle 108 = .ok (.if_icmp .ge 17, 3) := by decide +kernel
theorem dX11_settle_111 : decode cX11_settle 111 = .ok (.aload_n 0, 1) := by decide +kernel
theorem dX11_settle_112 : decode cX11_settle 112 = .ok (.iload_n 1, 1) := by decide +kernel
theorem dX11_settle_113 : decode cX11_settle 113 = .ok (.iload_n 2, 1) := by decide +kernel
theorem dX11_settle_114 : decode cX11_settle 114 = .ok (.iconst (-1), 1) := by decide +kernel
theorem dX11_settle_115 : decode cX11_settle 115 = .ok (.iconst 0, 1) := by decide +kernel
theorem dX11_settle_116 : decode cX11_settle 116 = .ok (.invokevirtual 192, 3) := by decide +kernel
theorem dX11_settle_119 : decode cX11_settle 119 = .ok (.iinc 2 1, 3) := by decide +kernel
theorem dX11_settle_122 : decode cX11_settle 122 = .ok (.goto (-17), 3) := by decide +kernel
theorem dX11_settle_125 : decode cX11_settle 125 = .ok (.iinc 1 1, 3) := by decide +kernel
theorem dX11_settle_128 : decode cX11_settle 128 = .ok (.goto (-35), 3) := by decide +kernel
theorem dX11_settle_131 : decode cX11_settle 131 = .ok (.iconst 0, 1) := by decide +kernel
theorem dX11_settle_132 : decode cX11_settle 132 = .ok (.istore_n 1, 1) := by decide +kernel
theorem dX11_settle_133 : decode cX11_settle 133 = .ok (.iload_n 1, 1) := by decide +kernel
theorem dX11_settle_134 : decode cX11_settle 134 = .ok (.aload_n 0, 1) := by decide +kernel
theorem dX11_settle_135 : decode cX11_settle 135 = .ok (.getfield 17, 3) := by decide +kernel
theorem dX11_settle_138 : decode cX11_settle 138 = .ok (.iconst 4, 1) := by decide +kernel
theorem dX11_settle_139 : decode cX11_settle 139 = .ok (.iaload, 1) := by decide +kernel
theorem dX11_settle_140 : decode cX11_settle 140 = .ok (.if_icmp .ge 78, 3) := by decide +kernel
theorem dX11_settle_143 : decode cX11_settle 143 = .ok (.aload_n 0, 1) := by decide +kernel
theorem dX11_settle_144 : decode cX11_settle 144 = .ok (.getfield 17, 3) := by decide +kernel
theorem dX11_settle_147 : decode cX11_settle 147 = .ok (.iconst 3, 1) := by decide +kernel
theorem dX11_settle_148 : decode cX11_settle 148 = .ok (.iaload, 1) := by decide +kernel
theorem dX11_settle_149 : decode cX11_settle 149 = .ok (.iconst 2, 1) := by decide +kernel
theorem dX11_settle_150 : decode cX11_settle 150 = .ok (.if_icmp .ne 68, 3) := by decide +kernel
theorem dX11_settle_153 : decode cX11_settle 153 = .ok (.iconst 1, 1) := by decide +kernel
theorem dX11_settle_154 : decode cX11_settle 154 = .ok (.istore_n 2, 1) := by decide +kernel
theorem dX11_settle_155 : decode cX11_settle 155 = .ok (.iload_n 2, 1) := by decide +kernel
theorem dX11_settle_156 : decode cX11_settle 156 = .ok (.bipush 10, 2) := by decide +kernel
theorem dX11_settle_158 : decode cX11_settle 158 = .ok (.if_icmp .ge 54, 3) := by decide +kernel
theorem dX11_settle_161 : decode cX11_settle 161 = .ok (.iload_n 1, 1) := by decide +kernel
theorem dX11_settle_162 : decode cX11_settle 162 = .ok (.iconst 1, 1) := by decide +kernel
theorem dX11_settle_163 : decode cX11_settle 163 = .ok (.iadd, 1) := by decide +kernel
theorem dX11_settle_164 : decode cX11_settle 164 = .ok (.istore_n 3, 1) := by decide +kernel
theorem dX11_settle_165 : decode cX11_settle 165 = .ok (.iload_n 3, 1) := by decide +kernel
theorem dX11_settle_166 : decode cX11_settle 166 = .ok (.aload_n 0, 1) := by decide +kernel
theorem dX11_settle_167 : decode cX11_settle 167 = .ok (.getfield 17, 3) := by decide +kernel
theorem dX11_settle_170 : decode cX11_settle 170 = .ok (.iconst 4, 1) := by decide +kernel
theorem dX11_settle_171 : decode cX11_settle 171 = .ok (.iaload, 1) := by decide +kernel
theorem dX11_settle_172 : decode cX11_settle 172 = .ok (.if_icmp .ge 34, 3) := by decide +kernel
theorem dX11_settle_175 : decode cX11_settle 175 = .ok (.iconst 1, 1) := by decide +kernel
theorem dX11_settle_176 : decode cX11_settle 176 = .ok (.istore 4, 2) := by decide +kernel
theorem dX11_settle_178 : decode cX11_settle 178 = .ok (.iload 4, 2) := by decide +kernel
theorem dX11_settle_180 : decode cX11_settle 180 = .ok (.bipush 10, 2) := by decide +kernel
theorem dX11_settle_182 : decode cX11_settle 182 = .ok (.if_icmp .ge 18, 3) := by decide +kernel
theorem dX11_settle_185 : decode cX11_settle 185 = .ok (.aload_n 0, 1) := by decide +kernel
theorem dX11_settle_186 : decode cX11_settle 186 = .ok (.iload_n 1, 1) := by decide +kernel
theorem dX11_settle_187 : decode cX11_settle 187 = .ok (.iload_n 2, 1) := by decide +kernel
theorem dX11_settle_188 : decode cX11_settle 188 = .ok (.iload_n 3, 1) := by decide +kernel
theorem dX11_settle_189 : decode cX11_settle 189 = .ok (.iload 4, 2) := by decide +kernel
theorem dX11_settle_191 : decode cX11_settle 191 = .ok (.invokevirtual 192, 3) := by decide +kernel
theorem dX11_settle_194 : decode cX11_settle 194 = .ok (.iinc 4 1, 3) := by decide +kernel
theorem dX11_settle_197 : decode cX11_settle 197 = .ok (.goto (-19), 3) := by decide +kernel
theorem dX11_settle_200 : decode cX11_settle 200 = .ok (.iinc 3 1, 3) := by decide +kernel
theorem dX11_settle_203 : decode cX11_settle 203 = .ok (.goto (-38), 3) := by decide +kernel
theorem dX11_settle_206 : decode cX11_settle 206 = .ok (.iinc 2 1, 3) := by decide +kernel
theorem dX11_settle_209 : decode cX11_settle 209 = .ok (.goto (-54), 3) := by decide +kernel
theorem dX11_settle_212 : decode cX11_settle 212 = .ok (.iinc 1 1, 3) := by decide +kernel
theorem dX11_settle_215 : decode cX11_settle 215 = .ok (.goto (-82), 3) := by decide +kernel
theorem dX11_settle_218 : decode cX11_settle 218 = .ok (.return_, 1) := by decide +kernel
theorem dX11_isColour_0 : decode cX11_isColour 0 = .ok (.iload_n 0, 1) := by decide +kernel
theorem dX11_isColour_1 : decode cX11_isColour 1 = .ok (.iconst 0, 1) := by decide +kernel
theorem dX11_isColour_2 : decode cX11_isColour 2 = .ok (.iconst 2, 1) := by decide +kernel
theorem dX11_isColour_3 : decode cX11_isColour 3 = .ok (.invokestatic 172, 3) := by decide +kernel
theorem dX11_isColour_6 : decode cX11_isColour 6 = .ok (.ireturn, 1) := by decide +kernel
theorem dX11_isThread_0 : decode cX11_isThread 0 = .ok (.iload_n 1, 1) := by decide +kernel
theorem dX11_isThread_1 : decode cX11_isThread 1 = .ok (.iconst 0, 1) := by decide +kernel
theorem dX11_isThread_2 : decode cX11_isThread 2 = .ok (.aload_n 0, 1) := by decide +kernel
theorem dX11_isThread_3 : decode cX11_isThread 3 = .ok (.getfield 189, 3) := by decide +kernel
theorem dX11_isThread_6 : decode cX11_isThread 6 = .ok (.iconst 1, 1) := by decide +kernel
theorem dX11_isThread_7 : decode cX11_isThread 7 = .ok (.isub, 1) := by decide +kernel
theorem dX11_isThread_8 : decode cX11_isThread 8 = .ok (.invokestatic 172, 3) := by decide +kernel
theorem dX11_isThread_11 : decode cX11_isThread 11 = .ok (.ireturn, 1) := by decide +kernel
theorem dX11_colour_0 : decode cX11_colour 0 = .ok (.aload_n 0, 1) := by decide +kernel
theorem dX11_colour_1 : decode cX11_colour 1 = .ok (.iload_n 1, 1) := by decide +kernel
theorem dX11_colour_2 : decode cX11_colour 2 = .ok (.invokevirtual 251, 3) := by decide +kernel
theorem dX11_colour_5 : decode cX11_colour 5 = .ok (.ifCond .eq 27, 3) := by decide +kernel
theorem dX11_colour_8 : decode cX11_colour 8 = .ok (.iload_n 2, 1) := by decide +kernel
theorem dX11_colour_9 : decode cX11_colour 9 = .ok (.invokestatic 235, 3) := by decide +kernel
theorem dX11_colour_12 : decode cX11_colour 12 = .ok (.ifCond .eq 20, 3) := by decide +kernel
theorem dX11_colour_15 : decode cX11_colour 15 = .ok (.iload_n 3, 1) := by decide +kernel
theorem dX11_colour_16 : decode cX11_colour 16 = .ok (.invokestatic 254, 3) := by decide +kernel
theorem dX11_colour_19 : decode cX11_colour 19 = .ok (.ifCond .eq 13, 3) := by decide +kernel
theorem dX11_colour_22 : decode cX11_colour 22 = .ok (.aload_n 0, 1) := by decide +kernel
theorem dX11_colour_23 : decode cX11_colour 23 = .ok (.iload_n 1, 1) := by decide +kernel
theorem dX11_colour_24 : decode cX11_colour 24 = .ok (.iload_n 2, 1) := by decide +kernel
theorem dX11_colour_25 : decode cX11_colour 25 = .ok (.iload_n 3, 1) := by decide +kernel
theorem dX11_colour_26 : decode cX11_colour 26 = .ok (.invokevirtual 257, 3) := by decide +kernel
theorem dX11_colour_29 : decode cX11_colour 29 = .ok (.goto 5, 3) := by decide +kernel
theorem dX11_colour_32 : decode cX11_colour 32 = .ok (.bipush (-2), 2) := by decide +kernel
theorem dX11_colour_34 : decode cX11_colour 34 = .ok (.ireturn, 1) := by decide +kernel
theorem dX11_common_0 : decode cX11_common 0 = .ok (.iload_n 0, 1) := by decide +kernel
theorem dX11_common_1 : decode cX11_common 1 = .ok (.istore_n 2, 1) := by decide +kernel
theorem dX11_common_2 : decode cX11_common 2 = .ok (.iload_n 1, 1) := by decide +kernel
theorem dX11_common_3 : decode cX11_common 3 = .ok (.istore_n 3, 1) := by decide +kernel
theorem dX11_common_4 : decode cX11_common 4 = .ok (.iload_n 3, 1) := by decide +kernel
theorem dX11_common_5 : decode cX11_common 5 = .ok (.ifCond .eq 16, 3) := by decide +kernel
theorem dX11_common_8 : decode cX11_common 8 = .ok (.iload_n 2, 1) := by decide +kernel
theorem dX11_common_9 : decode cX11_common 9 = .ok (.iload_n 3, 1) := by decide +kernel
theorem dX11_common_10 : decode cX11_common 10 = .ok (.irem, 1) := by decide +kernel
theorem dX11_common_11 : decode cX11_common 11 = .ok (.istore 4, 2) := by decide +kernel
theorem dX11_common_13 : decode cX11_common 13 = .ok (.iload_n 3, 1) := by decide +kernel
theorem dX11_common_14 : decode cX11_common 14 = .ok (.istore_n 2, 1) := by decide +kernel
theorem dX11_common_15 : decode cX11_common 15 = .ok (.iload 4, 2) := by decide +kernel
theorem dX11_common_17 : decode cX11_common 17 = .ok (.istore_n 3, 1) := by decide +kernel
theorem dX11_common_18 : decode cX11_common 18 = .ok (.goto (-14), 3) := by decide +kernel
theorem dX11_common_21 : decode cX11_common 21 = .ok (.iload_n 2, 1) := by decide +kernel
theorem dX11_common_22 : decode cX11_common 22 = .ok (.ireturn, 1) := by decide +kernel
theorem dX11_count_0 : decode cX11_count 0 = .ok (.iload_n 1, 1) := by decide +kernel
theorem dX11_count_1 : decode cX11_count 1 = .ok (.tableswitch 75 0 5 #[39, 44, 51, 58, 65, 70], 39) := by decide +kernel
theorem dX11_count_40 : decode cX11_count 40 = .ok (.aload_n 0, 1) := by decide +kernel
theorem dX11_count_41 : decode cX11_count 41 = .ok (.getfield 219, 3) := by decide +kernel
theorem dX11_count_44 : decode cX11_count 44 = .ok (.ireturn, 1) := by decide +kernel
theorem dX11_count_45 : decode cX11_count 45 = .ok (.aload_n 0, 1) := by decide +kernel
theorem dX11_count_46 : decode cX11_count 46 = .ok (.getfield 55, 3) := by decide +kernel
theorem dX11_count_49 : decode cX11_count 49 = .ok (.iconst 0, 1) := by decide +kernel
theorem dX11_count_50 : decode cX11_count 50 = .ok (.iaload, 1) := by decide +kernel
theorem dX11_count_51 : decode cX11_count 51 = .ok (.ireturn, 1) := by decide +kernel
theorem dX11_count_52 : decode cX11_count 52 = .ok (.aload_n 0, 1) := by decide +kernel
theorem dX11_count_53 : decode cX11_count 53 = .ok (.getfield 55, 3) := by decide +kernel
theorem dX11_count_56 : decode cX11_count 56 = .ok (.iconst 1, 1) := by decide +kernel
theorem dX11_count_57 : decode cX11_count 57 = .ok (.iaload, 1) := by decide +kernel
theorem dX11_count_58 : decode cX11_count 58 = .ok (.ireturn, 1) := by decide +kernel
theorem dX11_count_59 : decode cX11_count 59 = .ok (.aload_n 0, 1) := by decide +kernel
theorem dX11_count_60 : decode cX11_count 60 = .ok (.getfield 55, 3) := by decide +kernel
theorem dX11_count_63 : decode cX11_count 63 = .ok (.iconst 2, 1) := by decide +kernel
theorem dX11_count_64 : decode cX11_count 64 = .ok (.iaload, 1) := by decide +kernel
theorem dX11_count_65 : decode cX11_count 65 = .ok (.ireturn, 1) := by decide +kernel
theorem dX11_count_66 : decode cX11_count 66 = .ok (.aload_n 0, 1) := by decide +kernel
theorem dX11_count_67 : decode cX11_count 67 = .ok (.getfield 189, 3) := by decide +kernel
theorem dX11_count_70 : decode cX11_count 70 = .ok (.ireturn, 1) := by decide +kernel
theorem dX11_count_71 : decode cX11_count 71 = .ok (.aload_n 0, 1) := by decide +kernel
theorem dX11_count_72 : decode cX11_count 72 = .ok (.getfield 110, 3) := by decide +kernel
theorem dX11_count_75 : decode cX11_count 75 = .ok (.ireturn, 1) := by decide +kernel
theorem dX11_count_76 : decode cX11_count 76 = .ok (.iconst (-1), 1) := by decide +kernel
theorem dX11_count_77 : decode cX11_count 77 = .ok (.ireturn, 1) := by decide +kernel
theorem dX11_draw_0 : decode cX11_draw 0 = .ok (.aload_n 0, 1) := by decide +kernel
theorem dX11_draw_1 : decode cX11_draw 1 = .ok (.ldc2_w 359, 3) := by decide +kernel
theorem dX11_draw_4 : decode cX11_draw 4 = .ok (.aload_n 0, 1) := by decide +kernel
theorem dX11_draw_5 : decode cX11_draw 5 = .ok (.getfield 361, 3) := by decide +kernel
theorem dX11_draw_8 : decode cX11_draw 8 = .ok (.lmul, 1) := by decide +kernel
theorem dX11_draw_9 : decode cX11_draw 9 = .ok (.ldc2_w 364, 3) := by decide +kernel
theorem dX11_draw_12 : decode cX11_draw 12 = .ok (.ladd, 1) := by decide +kernel
theorem dX11_draw_13 : decode cX11_draw 13 = .ok (.ldc2_w 366, 3) := by decide +kernel
theorem dX11_draw_16 : decode cX11_draw 16 = .ok (.lrem, 1) := by decide +kernel
theorem dX11_draw_17 : decode cX11_draw 17 = .ok (.putfield 361, 3) := by decide +kernel
theorem dX11_draw_20 : decode cX11_draw 20 = .ok (.aload_n 0, 1) := by decide +kernel
theorem dX11_draw_21 : decode cX11_draw 21 = .ok (.getfield 361, 3) := by decide +kernel
theorem dX11_draw_24 : decode cX11_draw 24 = .ok (.ldc2_w 368, 3) := by decide +kernel
theorem dX11_draw_27 : decode cX11_draw 27 = .ok (.ldiv, 1) := by decide +kernel
theorem dX11_draw_28 : decode cX11_draw 28 = .ok (.iload_n 1, 1) := by decide +kernel
theorem dX11_draw_29 : decode cX11_draw 29 = .ok (.i2l, 1) := by decide +kernel
theorem dX11_draw_30 : decode cX11_draw 30 = .ok (.lrem, 1) := by decide +kernel
theorem dX11_draw_31 : decode cX11_draw 31 = .ok (.l2i, 1) := by decide +kernel
theorem dX11_draw_32 : decode cX11_draw 32 = .ok (.ireturn, 1) := by decide +kernel
theorem dX11_thread_0 : decode cX11_thread 0 = .ok (.iconst 0, 1) := by decide +kernel
theorem dX11_thread_1 : decode cX11_thread 1 = .ok (.istore 5, 2) := by decide +kernel
theorem dX11_thread_3 : decode cX11_thread 3 = .ok (.iload 5, 2) := by decide +kernel
theorem dX11_thread_5 : decode cX11_thread 5 = .ok (.aload_n 0, 1) := by decide +kernel
theorem dX11_thread_6 : decode cX11_thread 6 = .ok (.getfield 189, 3) := by decide +kernel
theorem dX11_thread_9 : decode cX11_thread 9 = .ok (.if_icmp .ge 62, 3) := by decide +kernel
theorem dX11_thread_12 : decode cX11_thread 12 = .ok (.aload_n 0, 1) := by decide +kernel
theorem dX11_thread_13 : decode cX11_thread 13 = .ok (.getfield 43, 3) := by decide +kernel
theorem dX11_thread_16 : decode cX11_thread 16 = .ok (.iload 5, 2) := by decide +kernel
theorem dX11_thread_18 : decode cX11_thread 18 = .ok (.iaload, 1) := by decide +kernel
theorem dX11_thread_19 : decode cX11_thread 19 = .ok (.iload_n 1, 1) := by decide +kernel
theorem dX11_thread_20 : decode cX11_thread 20 = .ok (.if_icmp .ne 45, 3) := by decide +kernel
theorem dX11_thread_23 : decode cX11_thread 23 = .ok (.aload_n 0, 1) := by decide +kernel
theorem dX11_thread_24 : decode cX11_thread 24 = .ok (.getfield 46, 3) := by decide +kernel
theorem dX11_thread_27 : decode cX11_thread 27 = .ok (.iload 5, 2) := by decide +kernel
theorem dX11_thread_29 : decode cX11_thread 29 = .ok (.iaload, 1) := by decide +kernel
theorem dX11_thread_30 : decode cX11_thread 30 = .ok (.iload_n 2, 1) := by decide +kernel
theorem dX11_thread_31 : decode cX11_thread 31 = .ok (.if_icmp .ne 34, 3) := by decide +kernel
theorem dX11_thread_34 : decode cX11_thread 34 = .ok (.aload_n 0, 1) := by decide +kernel
theorem dX11_thread_35 : decode cX11_thread 35 = .ok (.getfield 49, 3) := by decide +kernel
theorem dX11_thread_38 : decode cX11_thread 38 = .ok (.iload 5, 2) := by decide +kernel
theorem dX11_thread_40 : decode cX11_thread 40 = .ok (.iaload, 1) := by decide +kernel
theorem dX11_thread_41 : decode cX11_thread 41 = .ok (.iload_n 3, 1) := by decide +kernel
theorem dX11_thread_42 : decode cX11_thread 42 = .ok (.if_icmp .ne 23, 3) := by decide +kernel
theorem dX11_thread_45 : decode cX11_thread 45 = .ok (.iload_n 3, 1) := by decide +kernel
theorem dX11_thread_46 : decode cX11_thread 46 = .ok (.iconst (-1), 1) := by decide +kernel
theorem dX11_thread_47 : decode cX11_thread 47 = .ok (.if_icmp .eq 15, 3) := by decide +kernel
theorem dX11_thread_50 : decode cX11_thread 50 = .ok (.aload_n 0, 1) := by decide +kernel
theorem dX11_thread_51 : decode cX11_thread 51 = .ok (.getfield 52, 3) := by decide +kernel
theorem dX11_thread_54 : decode cX11_thread 54 = .ok (.iload 5, 2) := by decide +kernel
theorem dX11_thread_56 : decode cX11_thread 56 = .ok (.iaload, 1) := by decide +kernel
theorem dX11_thread_57 : decode cX11_thread 57 = .ok (.iload 4, 2) := by decide +kernel
theorem dX11_thread_59 : decode cX11_thread 59 = .ok (.if_icmp .ne 6, 3) := by decide +kernel
theorem dX11_thread_62 : decode cX11_thread 62 = .ok (.iload 5, 2) := by decide +kernel
theorem dX11_thread_64 : decode cX11_thread 64 = .ok (.ireturn, 1) := by decide +kernel
theorem dX11_thread_65 : decode cX11_thread 65 = .ok (.iinc 5 1, 3) := by decide +kernel
theorem dX11_thread_68 : decode cX11_thread 68 = .ok (.goto (-65), 3) := by decide +kernel
theorem dX11_thread_71 : decode cX11_thread 71 = .ok (.bipush (-2), 2) := by decide +kernel
theorem dX11_thread_73 : decode cX11_thread 73 = .ok (.ireturn, 1) := by decide +kernel
theorem dX11_drawThread_0 : decode cX11_drawThread 0 = .ok (.aload_n 0, 1) := by decide +kernel
theorem dX11_drawThread_1 : decode cX11_drawThread 1 = .ok (.aload_n 0, 1) := by decide +kernel
theorem dX11_drawThread_2 : decode cX11_drawThread 2 = .ok (.getfield 17, 3) := by decide +kernel
theorem dX11_drawThread_5 : decode cX11_drawThread 5 = .ok (.iconst 4, 1) := by decide +kernel
theorem dX11_drawThread_6 : decode cX11_drawThread 6 = .ok (.iaload, 1) := by decide +kernel
theorem dX11_drawThread_7 : decode cX11_drawThread 7 = .ok (.invokevirtual 370, 3) := by decide +kernel
theorem dX11_drawThread_10 : decode cX11_drawThread 10 = .ok (.istore_n 1, 1) := by decide +kernel
theorem dX11_drawThread_11 : decode cX11_drawThread 11 = .ok (.iconst 1, 1) := by decide +kernel
theorem dX11_drawThread_12 : decode cX11_drawThread 12 = .ok (.aload_n 0, 1) := by decide +kernel
theorem dX11_drawThread_13 : decode cX11_drawThread 13 = .ok (.bipush 9, 2) := by decide +kernel
theorem dX11_drawThread_15 : decode cX11_drawThread 15 = .ok (.invokevirtual 370, 3) := by decide +kernel
theorem dX11_drawThread_18 : decode cX11_drawThread 18 = .ok (.iadd, 1) := by decide +kernel
theorem dX11_drawThread_19 : decode cX11_drawThread 19 = .ok (.istore_n 2, 1) := by decide +kernel
theorem dX11_drawThread_20 : decode cX11_drawThread 20 = .ok (.aload_n 0, 1) := by decide +kernel
theorem dX11_drawThread_21 : decode cX11_drawThread 21 = .ok (.iconst 3, 1) := by decide +kernel
theorem dX11_drawThread_22 : decode cX11_drawThread 22 = .ok (.invokevirtual 370, 3) := by decide +kernel
theorem dX11_drawThread_25 : decode cX11_drawThread 25 = .ok (.ifCond .ne 23, 3) := by decide +kernel
theorem dX11_drawThread_28 : decode cX11_drawThread 28 = .ok (.aload_n 0, 1) := by decide +kernel
theorem dX11_drawThread_29 : decode cX11_drawThread 29 = .ok (.getfield 17, 3) := by decide +kernel
theorem dX11_drawThread_32 : decode cX11_drawThread 32 = .ok (.iconst 4, 1) := by decide +kernel
theorem dX11_drawThread_33 : decode cX11_drawThread 33 = .ok (.iaload, 1) := by decide +kernel
theorem dX11_drawThread_34 : decode cX11_drawThread 34 = .ok (.iconst 2, 1) := by decide +kernel
theorem dX11_drawThread_35 : decode cX11_drawThread 35 = .ok (.if_icmp .lt 13, 3) := by decide +kernel
theorem dX11_drawThread_38 : decode cX11_drawThread 38 = .ok (.aload_n 0, 1) := by decide +kernel
theorem dX11_drawThread_39 : decode cX11_drawThread 39 = .ok (.getfield 17, 3) := by decide +kernel
theorem dX11_drawThread_42 : decode cX11_drawThread 42 = .ok (.iconst 3, 1) := by decide +kernel
theorem dX11_drawThread_43 : decode cX11_drawThread 43 = .ok (.iaload, 1) := by decide +kernel
theorem dX11_drawThread_44 : decode cX11_drawThread 44 = .ok (.iconst 2, 1) := by decide +kernel
theorem dX11_drawThread_45 : decode cX11_drawThread 45 = .ok (.if_icmp .ge 12, 3) := by decide +kernel
theorem dX11_drawThread_48 : decode cX11_drawThread 48 = .ok (.aload_n 0, 1) := by decide +kernel
theorem dX11_drawThread_49 : decode cX11_drawThread 49 = .ok (.iload_n 1, 1) := by decide +kernel
theorem dX11_drawThread_50 : decode cX11_drawThread 50 = .ok (.iload_n 2, 1) := by decide +kernel
theorem dX11_drawThread_51 : decode cX11_drawThread 51 = .ok (.iconst (-1), 1) := by decide +kernel
theorem dX11_drawThread_52 : decode cX11_drawThread 52 = .ok (.iconst 0, 1) := by decide +kernel
theorem dX11_drawThread_53 : decode cX11_drawThread 53 = .ok (.invokevirtual 373, 3) := by decide +kernel
theorem dX11_drawThread_56 : decode cX11_drawThread 56 = .ok (.ireturn, 1) := by decide +kernel
theorem dX11_drawThread_57 : decode cX11_drawThread 57 = .ok (.aload_n 0, 1) := by decide +kernel
theorem dX11_drawThread_58 : decode cX11_drawThread 58 = .ok (.aload_n 0, 1) := by decide +kernel
theorem dX11_drawThread_59 : decode cX11_drawThread 59 = .ok (.getfield 17, 3) := by decide +kernel
theorem dX11_drawThread_62 : decode cX11_drawThread 62 = .ok (.iconst 4, 1) := by decide +kernel
theorem dX11_drawThread_63 : decode cX11_drawThread 63 = .ok (.iaload, 1) := by decide +kernel
theorem dX11_drawThread_64 : decode cX11_drawThread 64 = .ok (.iconst 1, 1) := by decide +kernel
theorem dX11_drawThread_65 : decode cX11_drawThread 65 = .ok (.isub, 1) := by decide +kernel
theorem dX11_drawThread_66 : decode cX11_drawThread 66 = .ok (.invokevirtual 370, 3) := by decide +kernel
theorem dX11_drawThread_69 : decode cX11_drawThread 69 = .ok (.istore_n 3, 1) := by decide +kernel
theorem dX11_drawThread_70 : decode cX11_drawThread 70 = .ok (.iload_n 3, 1) := by decide +kernel
theorem dX11_drawThread_71 : decode cX11_drawThread 71 = .ok (.iload_n 1, 1) := by decide +kernel
theorem dX11_drawThread_72 : decode cX11_drawThread 72 = .ok (.if_icmp .lt 9, 3) := by decide +kernel
theorem dX11_drawThread_75 : decode cX11_drawThread 75 = .ok (.iload_n 3, 1) := by decide +kernel
theorem dX11_drawThread_76 : decode cX11_drawThread 76 = .ok (.iconst 1, 1) := by decide +kernel
theorem dX11_drawThread_77 : decode cX11_drawThread 77 = .ok (.iadd, 1) := by decide +kernel
theorem dX11_drawThread_78 : decode cX11_drawThread 78 = .ok (.goto 4, 3) := by decide +kernel
theorem dX11_drawThread_81 : decode cX11_drawThread 81 = .ok (.iload_n 3, 1) := by decide +kernel
theorem dX11_drawThread_82 : decode cX11_drawThread 82 = .ok (.istore_n 3, 1) := by decide +kernel
theorem dX11_drawThread_83 : decode cX11_drawThread 83 = .ok (.iconst 1, 1) := by decide +kernel
theorem dX11_drawThread_84 : decode cX11_drawThread 84 = .ok (.aload_n 0, 1) := by decide +kernel
theorem dX11_drawThread_85 : decode cX11_drawThread 85 = .ok (.bipush 9, 2) := by decide +kernel
theorem dX11_drawThread_87 : decode cX11_drawThread 87 = .ok (.invokevirtual 370, 3) := by decide +kernel
theorem dX11_drawThread_90 : decode cX11_drawThread 90 = .ok (.iadd, 1) := by decide +kernel
theorem dX11_drawThread_91 : decode cX11_drawThread 91 = .ok (.istore 4, 2) := by decide +kernel
theorem dX11_drawThread_93 : decode cX11_drawThread 93 = .ok (.iload_n 1, 1) := by decide +kernel
theorem dX11_drawThread_94 : decode cX11_drawThread 94 = .ok (.iload_n 3, 1) := by decide +kernel
theorem dX11_drawThread_95 : decode cX11_drawThread 95 = .ok (.if_icmp .ge 15, 3) := by decide +kernel
theorem dX11_drawThread_98 : decode cX11_drawThread 98 = .ok (.aload_n 0, 1) := by decide +kernel
theorem dX11_drawThread_99 : decode cX11_drawThread 99 = .ok (.iload_n 1, 1) := by decide +kernel
theorem dX11_drawThread_100 : decode cX11_drawThread 100 = .ok (.iload_n 2, 1) := by decide +kernel
theorem dX11_drawThread_101 : decode cX11_drawThread 101 = .ok (.iload_n 3, 1) := by decide +kernel
theorem dX11_drawThread_102 : decode cX11_drawThread 102 = .ok (.iload 4, 2) := by decide +kernel
theorem dX11_drawThread_104 : decode cX11_drawThread 104 = .ok (.invokevirtual 373, 3) := by decide +kernel
theorem dX11_drawThread_107 : decode cX11_drawThread 107 = .ok (.goto 12, 3) := by decide +kernel
theorem dX11_drawThread_110 : decode cX11_drawThread 110 = .ok (.aload_n 0, 1) := by decide +kernel
theorem dX11_drawThread_111 : decode cX11_drawThread 111 = .ok (.iload_n 3, 1) := by decide +kernel
theorem dX11_drawThread_112 : decode cX11_drawThread 112 = .ok (.iload 4, 2) := by decide +kernel
theorem dX11_drawThread_114 : decode cX11_drawThread 114 = .ok (.iload_n 1, 1) := by decide +kernel
theorem dX11_drawThread_115 : decode cX11_drawThread 115 = .ok (.iload_n 2, 1) := by decide +kernel
theorem dX11_drawThread_116 : decode cX11_drawThread 116 = .ok (.invokevirtual 373, 3) := by decide +kernel
theorem dX11_drawThread_119 : decode cX11_drawThread 119 = .ok (.ireturn, 1) := by decide +kernel
theorem dX11_end_0 : decode cX11_end 0 = .ok (.iload_n 1, 1) := by decide +kernel
theorem dX11_end_1 : decode cX11_end 1 = .ok (.ifCond .lt 11, 3) := by decide +kernel
theorem dX11_end_4 : decode cX11_end 4 = .ok (.iload_n 1, 1) := by decide +kernel
theorem dX11_end_5 : decode cX11_end 5 = .ok (.aload_n 0, 1) := by decide +kernel
theorem dX11_end_6 : decode cX11_end 6 = .ok (.getfield 110, 3) := by decide +kernel
theorem dX11_end_9 : decode cX11_end 9 = .ok (.if_icmp .le 5, 3) := by decide +kernel
theorem dX11_end_12 : decode cX11_end 12 = .ok (.iconst (-1), 1) := by decide +kernel
theorem dX11_end_13 : decode cX11_end 13 = .ok (.ireturn, 1) := by decide +kernel
theorem dX11_end_14 : decode cX11_end 14 = .ok (.aload_n 0, 1) := by decide +kernel
theorem dX11_end_15 : decode cX11_end 15 = .ok (.iload_n 1, 1) := by decide +kernel
theorem dX11_end_16 : decode cX11_end 16 = .ok (.putfield 110, 3) := by decide +kernel
theorem dX11_end_19 : decode cX11_end 19 = .ok (.iload_n 1, 1) := by decide +kernel
theorem dX11_end_20 : decode cX11_end 20 = .ok (.ireturn, 1) := by decide +kernel
theorem dX11_fault_0 : decode cX11_fault 0 = .ok (.iload_n 1, 1) := by decide +kernel
theorem dX11_fault_1 : decode cX11_fault 1 = .ok (.ifCond .ne 10, 3) := by decide +kernel
theorem dX11_fault_4 : decode cX11_fault 4 = .ok (.aload_n 0, 1) := by decide +kernel
theorem dX11_fault_5 : decode cX11_fault 5 = .ok (.getfield 166, 3) := by decide +kernel
theorem dX11_fault_8 : decode cX11_fault 8 = .ok (.goto 16, 3) := by decide +kernel
theorem dX11_fault_11 : decode cX11_fault 11 = .ok (.iload_n 1, 1) := by decide +kernel
theorem dX11_fault_12 : decode cX11_fault 12 = .ok (.iconst 1, 1) := by decide +kernel
theorem dX11_fault_13 : decode cX11_fault 13 = .ok (.if_icmp .ne 10, 3) := by decide +kernel
theorem dX11_fault_16 : decode cX11_fault 16 = .ok (.aload_n 0, 1) := by decide +kernel
theorem dX11_fault_17 : decode cX11_fault 17 = .ok (.getfield 13, 3) := by decide +kernel
theorem dX11_fault_20 : decode cX11_fault 20 = .ok (.goto 4, 3) := by decide +kernel
theorem dX11_fault_23 : decode cX11_fault 23 = .ok (.iconst (-1), 1) := by decide +kernel
theorem dX11_fault_24 : decode cX11_fault 24 = .ok (.ireturn, 1) := by decide +kernel
theorem dX11_feed_0 : decode cX11_feed 0 = .ok (.aload_n 0, 1) := by decide +kernel
theorem dX11_feed_1 : decode cX11_feed 1 = .ok (.getfield 110, 3) := by decide +kernel
theorem dX11_feed_4 : decode cX11_feed 4 = .ok (.bipush 20, 2) := by decide +kernel
theorem dX11_feed_6 : decode cX11_feed 6 = .ok (.iadd, 1) := by decide +kernel
theorem dX11_feed_7 : decode cX11_feed 7 = .ok (.sipush 900, 3) := by decide +kernel
theorem dX11_feed_10 : decode cX11_feed 10 = .ok (.if_icmp .le 6, 3) := by decide +kernel
theorem dX11_feed_13 : decode cX11_feed 13 = .ok (.bipush (-3), 2) := by decide +kernel
theorem dX11_feed_15 : decode cX11_feed 15 = .ok (.ireturn, 1) := by decide +kernel
theorem dX11_feed_16 : decode cX11_feed 16 = .ok (.iconst 0, 1) := by decide +kernel
theorem dX11_feed_17 : decode cX11_feed 17 = .ok (.istore 6, 2) := by decide +kernel
theorem dX11_feed_19 : decode cX11_feed 19 = .ok (.iload 6, 2) := by decide +kernel
theorem dX11_feed_21 : decode cX11_feed 21 = .ok (.iconst 5, 1) := by decide +kernel
theorem dX11_feed_22 : decode cX11_feed 22 = .ok (.if_icmp .ge 93, 3) := by decide +kernel
theorem dX11_feed_25 : decode cX11_feed 25 = .ok (.iload 6, 2) := by decide +kernel
theorem dX11_feed_27 : decode cX11_feed 27 = .ok (.ifCond .ne 7, 3) := by decide +kernel
theorem dX11_feed_30 : decode cX11_feed 30 = .ok (.iload_n 1, 1) := by decide +kernel
theorem dX11_feed_31 : decode cX11_feed 31 = .ok (.goto 36, 3) := by decide +kernel
theorem dX11_feed_34 : decode cX11_feed 34 = .ok (.iload 6, 2) := by decide +kernel
theorem dX11_feed_36 : decode cX11_feed 36 = .ok (.iconst 1, 1) := by decide +kernel
theorem dX11_feed_37 : decode cX11_feed 37 = .ok (.if_icmp .ne 7, 3) := by decide +kernel
theorem dX11_feed_40 : decode cX11_feed 40 = .ok (.iload_n 2, 1) := by decide +kernel
theorem dX11_feed_41 : decode cX11_feed 41 = .ok (.goto 26, 3) := by decide +kernel
theorem dX11_feed_44 : decode cX11_feed 44 = .ok (.iload 6, 2) := by decide +kernel
theorem dX11_feed_46 : decode cX11_feed 46 = .ok (.iconst 2, 1) := by decide +kernel
theorem dX11_feed_47 : decode cX11_feed 47 = .ok (.if_icmp .ne 7, 3) := by decide +kernel
theorem dX11_feed_50 : decode cX11_feed 50 = .ok (.iload_n 3, 1) := by decide +kernel
theorem dX11_feed_51 : decode cX11_feed 51 = .ok (.goto 16, 3) := by decide +kernel
theorem dX11_feed_54 : decode cX11_feed 54 = .ok (.iload 6, 2) := by decide +kernel
theorem dX11_feed_56 : decode cX11_feed 56 = .ok (.iconst 3, 1) := by decide +kernel
theorem dX11_feed_57 : decode cX11_feed 57 = .ok (.if_icmp .ne 8, 3) := by decide +kernel
theorem dX11_feed_60 : decode cX11_feed 60 = .ok (.iload 4, 2) := by decide +kernel
theorem dX11_feed_62 : decode cX11_feed 62 = .ok (.goto 5, 3) := by decide +kernel
theorem dX11_feed_65 : decode cX11_feed 65 = .ok (.iload 5, 2) := by decide +kernel
theorem dX11_feed_67 : decode cX11_feed 67 = .ok (.istore 7, 2) := by decide +kernel
theorem dX11_feed_69 : decode cX11_feed 69 = .ok (.bipush 24, 2) := by decide +kernel
theorem dX11_feed_71 : decode cX11_feed 71 = .ok (.istore 8, 2) := by decide +kernel
theorem dX11_feed_73 : decode cX11_feed 73 = .ok (.iload 8, 2) := by decide +kernel
theorem dX11_feed_75 : decode cX11_feed 75 = .ok (.ifCond .lt 34, 3) := by decide +kernel
theorem dX11_feed_78 : decode cX11_feed 78 = .ok (.aload_n 0, 1) := by decide +kernel
theorem dX11_feed_79 : decode cX11_feed 79 = .ok (.getfield 7, 3) := by decide +kernel
theorem dX11_feed_82 : decode cX11_feed 82 = .ok (.aload_n 0, 1) := by decide +kernel
theorem dX11_feed_83 : decode cX11_feed 83 = .ok (.getfield 110, 3) := by decide +kernel
theorem dX11_feed_86 : decode cX11_feed 86 = .ok (.iload 7, 2) := by decide +kernel
theorem dX11_feed_88 : decode cX11_feed 88 = .ok (.iload 8, 2) := by decide +kernel
theorem dX11_feed_90 : decode cX11_feed 90 = .ok (.ishr, 1) := by decide +kernel
theorem dX11_feed_91 : decode cX11_feed 91 = .ok (.i2b, 1) := by decide +kernel
theorem dX11_feed_92 : decode cX11_feed 92 = .ok (.bastore, 1) := by decide +kernel
theorem dX11_feed_93 : decode cX11_feed 93 = .ok (.aload_n 0, 1) := by decide +kernel
theorem dX11_feed_94 : decode cX11_feed 94 = .ok (.dup, 1) := by decide +kernel
theorem dX11_feed_95 : decode cX11_feed 95 = .ok (.getfield 110, 3) := by decide +kernel
theorem dX11_feed_98 : decode cX11_feed 98 = .ok (.iconst 1, 1) := by decide +kernel
theorem dX11_feed_99 : decode cX11_feed 99 = .ok (.iadd, 1) := by decide +kernel
theorem dX11_feed_100 : decode cX11_feed 100 = .ok (.putfield 110, 3) := by decide +kernel
theorem dX11_feed_103 : decode cX11_feed 103 = .ok (.iinc 8 (-8), 3) := by decide +kernel
theorem dX11_feed_106 : decode cX11_feed 106 = .ok (.goto (-33), 3) := by decide +kernel
theorem dX11_feed_109 : decode cX11_feed 109 = .ok (.iinc 6 1, 3) := by decide +kernel
theorem dX11_feed_112 : decode cX11_feed 112 = .ok (.goto (-93), 3) := by decide +kernel
theorem dX11_feed_115 : decode cX11_feed 115 = .ok (.aload_n 0, 1) := by decide +kernel
theorem dX11_feed_116 : decode cX11_feed 116 = .ok (.getfield 110, 3) := by decide +kernel
theorem dX11_feed_119 : decode cX11_feed 119 = .ok (.ireturn, 1) := by decide +kernel
theorem dX11_fit_0 : decode cX11_fit 0 = .ok (.aload_n 0, 1) := by decide +kernel
theorem dX11_fit_1 : decode cX11_fit 1 = .ok (.iload_n 1, 1) := by decide +kernel
theorem dX11_fit_2 : decode cX11_fit 2 = .ok (.iload_n 2, 1) := by decide +kernel
theorem dX11_fit_3 : decode cX11_fit 3 = .ok (.iload_n 3, 1) := by decide +kernel
theorem dX11_fit_4 : decode cX11_fit 4 = .ok (.invokevirtual 310, 3) := by decide +kernel
theorem dX11_fit_7 : decode cX11_fit 7 = .ok (.ifCond .eq 13, 3) := by decide +kernel
theorem dX11_fit_10 : decode cX11_fit 10 = .ok (.iload 4, 2) := by decide +kernel
theorem dX11_fit_12 : decode cX11_fit 12 = .ok (.iconst 0, 1) := by decide +kernel
theorem dX11_fit_13 : decode cX11_fit 13 = .ok (.iconst 3, 1) := by decide +kernel
theorem dX11_fit_14 : decode cX11_fit 14 = .ok (.invokestatic 172, 3) := by decide +kernel
theorem dX11_fit_17 : decode cX11_fit 17 = .ok (.ifCond .ne 6, 3) := by decide +kernel
theorem dX11_fit_20 : decode cX11_fit 20 = .ok (.bipush (-2), 2) := by decide +kernel
theorem dX11_fit_22 : decode cX11_fit 22 = .ok (.ireturn, 1) := by decide +kernel
theorem dX11_fit_23 : decode cX11_fit 23 = .ok (.aload_n 0, 1) := by decide +kernel
theorem dX11_fit_24 : decode cX11_fit 24 = .ok (.iload_n 1, 1) := by decide +kernel
theorem dX11_fit_25 : decode cX11_fit 25 = .ok (.iload_n 2, 1) := by decide +kernel
theorem dX11_fit_26 : decode cX11_fit 26 = .ok (.iload_n 3, 1) := by decide +kernel
theorem dX11_fit_27 : decode cX11_fit 27 = .ok (.invokevirtual 313, 3) := by decide +kernel
theorem dX11_fit_30 : decode cX11_fit 30 = .ok (.iload 4, 2) := by decide +kernel
theorem dX11_fit_32 : decode cX11_fit 32 = .ok (.iconst 2, 1) := by decide +kernel
theorem dX11_fit_33 : decode cX11_fit 33 = .ok (.if_icmp .ge 20, 3) := by decide +kernel
theorem dX11_fit_36 : decode cX11_fit 36 = .ok (.iload 4, 2) := by decide +kernel
theorem dX11_fit_38 : decode cX11_fit 38 = .ok (.ifCond .ne 10, 3) := by decide +kernel
theorem dX11_fit_41 : decode cX11_fit 41 = .ok (.aload_n 0, 1) := by decide +kernel
theorem dX11_fit_42 : decode cX11_fit 42 = .ok (.getfield 300, 3) := by decide +kernel
theorem dX11_fit_45 : decode cX11_fit 45 = .ok (.goto 7, 3) := by decide +kernel
theorem dX11_fit_48 : decode cX11_fit 48 = .ok (.aload_n 0, 1) := by decide +kernel
theorem dX11_fit_49 : decode cX11_fit 49 = .ok (.getfield 303, 3) := by decide +kernel
theorem dX11_fit_52 : decode cX11_fit 52 = .ok (.ireturn, 1) := by decide +kernel
theorem dX11_fit_53 : decode cX11_fit 53 = .ok (.aload_n 0, 1) := by decide +kernel
theorem dX11_fit_54 : decode cX11_fit 54 = .ok (.getfield 300, 3) := by decide +kernel
theorem dX11_fit_57 : decode cX11_fit 57 = .ok (.ifCond .ne 7, 3) := by decide +kernel
theorem dX11_fit_60 : decode cX11_fit 60 = .ok (.iconst (-1), 1) := by decide +kernel
theorem dX11_fit_61 : decode cX11_fit 61 = .ok (.goto 24, 3) := by decide +kernel
theorem dX11_fit_64 : decode cX11_fit 64 = .ok (.iload 4, 2) := by decide +kernel
theorem dX11_fit_66 : decode cX11_fit 66 = .ok (.iconst 2, 1) := by decide +kernel
theorem dX11_fit_67 : decode cX11_fit 67 = .ok (.if_icmp .ne 12, 3) := by decide +kernel
theorem dX11_fit_70 : decode cX11_fit 70 = .ok (.aload_n 0, 1) := by decide +kernel
theorem dX11_fit_71 : decode cX11_fit 71 = .ok (.getfield 71, 3) := by decide +kernel
theorem dX11_fit_74 : decode cX11_fit 74 = .ok (.iconst 0, 1) := by decide +kernel
theorem dX11_fit_75 : decode cX11_fit 75 = .ok (.iaload, 1) := by decide +kernel
theorem dX11_fit_76 : decode cX11_fit 76 = .ok (.goto 9, 3) := by decide +kernel
theorem dX11_fit_79 : decode cX11_fit 79 = .ok (.aload_n 0, 1) := by decide +kernel
theorem dX11_fit_80 : decode cX11_fit 80 = .ok (.getfield 74, 3) := by decide +kernel
theorem dX11_fit_83 : decode cX11_fit 83 = .ok (.iconst 0, 1) := by decide +kernel
theorem dX11_fit_84 : decode cX11_fit 84 = .ok (.iaload, 1) := by decide +kernel
theorem dX11_fit_85 : decode cX11_fit 85 = .ok (.ireturn, 1) := by decide +kernel
theorem dX11_gone_0 : decode cX11_gone 0 = .ok (.aload_n 0, 1) := by decide +kernel
theorem dX11_gone_1 : decode cX11_gone 1 = .ok (.iload_n 1, 1) := by decide +kernel
theorem dX11_gone_2 : decode cX11_gone 2 = .ok (.invokevirtual 261, 3) := by decide +kernel
theorem dX11_gone_5 : decode cX11_gone 5 = .ok (.ifCond .eq 34, 3) := by decide +kernel
theorem dX11_gone_8 : decode cX11_gone 8 = .ok (.aload_n 0, 1) := by decide +kernel
theorem dX11_gone_9 : decode cX11_gone 9 = .ok (.iload_n 2, 1) := by decide +kernel
theorem dX11_gone_10 : decode cX11_gone 10 = .ok (.invokevirtual 264, 3) := by decide +kernel
theorem dX11_gone_13 : decode cX11_gone 13 = .ok (.ifCond .eq 26, 3) := by decide +kernel
theorem dX11_gone_16 : decode cX11_gone 16 = .ok (.iload_n 3, 1) := by decide +kernel
theorem dX11_gone_17 : decode cX11_gone 17 = .ok (.iconst 0, 1) := by decide +kernel
theorem dX11_gone_18 : decode cX11_gone 18 = .ok (.iconst 1, 1) := by decide +kernel
theorem dX11_gone_19 : decode cX11_gone 19 = .ok (.invokestatic 172, 3) := by decide +kernel
theorem dX11_gone_22 : decode cX11_gone 22 = .ok (.ifCond .eq 17, 3) := by decide +kernel
theorem dX11_gone_25 : decode cX11_gone 25 = .ok (.aload_n 0, 1) := by decide +kernel
theorem dX11_gone_26 : decode cX11_gone 26 = .ok (.iload_n 1, 1) := by decide +kernel
theorem dX11_gone_27 : decode cX11_gone 27 = .ok (.iload_n 2, 1) := by decide +kernel
theorem dX11_gone_28 : decode cX11_gone 28 = .ok (.iload_n 3, 1) := by decide +kernel
theorem dX11_gone_29 : decode cX11_gone 29 = .ok (.iconst 0, 1) := by decide +kernel
theorem dX11_gone_30 : decode cX11_gone 30 = .ok (.iconst 0, 1) := by decide +kernel
theorem dX11_gone_31 : decode cX11_gone 31 = .ok (.iconst 0, 1) := by decide +kernel
theorem dX11_gone_32 : decode cX11_gone 32 = .ok (.iconst 1, 1) := by decide +kernel
theorem dX11_gone_33 : decode cX11_gone 33 = .ok (.invokevirtual 270, 3) := by decide +kernel
theorem dX11_gone_36 : decode cX11_gone 36 = .ok (.goto 5, 3) := by decide +kernel
theorem dX11_gone_39 : decode cX11_gone 39 = .ok (.bipush (-2), 2) := by decide +kernel
theorem dX11_gone_41 : decode cX11_gone 41 = .ok (.ireturn, 1) := by decide +kernel
theorem dX11_grey_0 : decode cX11_grey 0 = .ok (.aload_n 0, 1) := by decide +kernel
theorem dX11_grey_1 : decode cX11_grey 1 = .ok (.iload_n 1, 1) := by decide +kernel
theorem dX11_grey_2 : decode cX11_grey 2 = .ok (.iload_n 2, 1) := by decide +kernel
theorem dX11_grey_3 : decode cX11_grey 3 = .ok (.iload_n 3, 1) := by decide +kernel
theorem dX11_grey_4 : decode cX11_grey 4 = .ok (.invokevirtual 310, 3) := by decide +kernel
theorem dX11_grey_7 : decode cX11_grey 7 = .ok (.ifCond .eq 19, 3) := by decide +kernel
theorem dX11_grey_10 : decode cX11_grey 10 = .ok (.iload 4, 2) := by decide +kernel
theorem dX11_grey_12 : decode cX11_grey 12 = .ok (.invokestatic 320, 3) := by decide +kernel
theorem dX11_grey_15 : decode cX11_grey 15 = .ok (.ifCond .eq 11, 3) := by decide +kernel
theorem dX11_grey_18 : decode cX11_grey 18 = .ok (.iload 5, 2) := by decide +kernel
theorem dX11_grey_20 : decode cX11_grey 20 = .ok (.invokestatic 254, 3) := by decide +kernel
theorem dX11_grey_23 : decode cX11_grey 23 = .ok (.ifCond .ne 6, 3) := by decide +kernel
theorem dX11_grey_26 : decode cX11_grey 26 = .ok (.bipush (-2), 2) := by decide +kernel
theorem dX11_grey_28 : decode cX11_grey 28 = .ok (.ireturn, 1) := by decide +kernel
theorem dX11_grey_29 : decode cX11_grey 29 = .ok (.aload_n 0, 1) := by decide +kernel
theorem dX11_grey_30 : decode cX11_grey 30 = .ok (.iload_n 1, 1) := by decide +kernel
theorem dX11_grey_31 : decode cX11_grey 31 = .ok (.iload_n 2, 1) := by decide +kernel
theorem dX11_grey_32 : decode cX11_grey 32 = .ok (.iload_n 3, 1) := by decide +kernel
theorem dX11_grey_33 : decode cX11_grey 33 = .ok (.invokevirtual 313, 3) := by decide +kernel
theorem dX11_grey_36 : decode cX11_grey 36 = .ok (.aload_n 0, 1) := by decide +kernel
theorem dX11_grey_37 : decode cX11_grey 37 = .ok (.iload 4, 2) := by decide +kernel
theorem dX11_grey_39 : decode cX11_grey 39 = .ok (.iload 5, 2) := by decide +kernel
theorem dX11_grey_41 : decode cX11_grey 41 = .ok (.invokevirtual 323, 3) := by decide +kernel
theorem dX11_grey_44 : decode cX11_grey 44 = .ok (.ireturn, 1) := by decide +kernel
theorem dX11_hours_0 : decode cX11_hours 0 = .ok (.aload_n 0, 1) := by decide +kernel
theorem dX11_hours_1 : decode cX11_hours 1 = .ok (.iload_n 1, 1) := by decide +kernel
theorem dX11_hours_2 : decode cX11_hours 2 = .ok (.invokevirtual 225, 3) := by decide +kernel
theorem dX11_hours_5 : decode cX11_hours 5 = .ok (.ifCond .eq 52, 3) := by decide +kernel
theorem dX11_hours_8 : decode cX11_hours 8 = .ok (.iload_n 2, 1) := by decide +kernel
theorem dX11_hours_9 : decode cX11_hours 9 = .ok (.iconst 0, 1) := by decide +kernel
theorem dX11_hours_10 : decode cX11_hours 10 = .ok (.aload_n 0, 1) := by decide +kernel
theorem dX11_hours_11 : decode cX11_hours 11 = .ok (.getfield 17, 3) := by decide +kernel
theorem dX11_hours_14 : decode cX11_hours 14 = .ok (.iconst 0, 1) := by decide +kernel
theorem dX11_hours_15 : decode cX11_hours 15 = .ok (.iaload, 1) := by decide +kernel
theorem dX11_hours_16 : decode cX11_hours 16 = .ok (.iconst 1, 1) := by decide +kernel
theorem dX11_hours_17 : decode cX11_hours 17 = .ok (.isub, 1) := by decide +kernel
theorem dX11_hours_18 : decode cX11_hours 18 = .ok (.invokestatic 172, 3) := by decide +kernel
theorem dX11_hours_21 : decode cX11_hours 21 = .ok (.ifCond .eq 36, 3) := by decide +kernel
theorem dX11_hours_24 : decode cX11_hours 24 = .ok (.iload_n 3, 1) := by decide +kernel
theorem dX11_hours_25 : decode cX11_hours 25 = .ok (.iconst 0, 1) := by decide +kernel
theorem dX11_hours_26 : decode cX11_hours 26 = .ok (.sipush 999, 3) := by decide +kernel
theorem dX11_hours_29 : decode cX11_hours 29 = .ok (.invokestatic 172, 3) := by decide +kernel
theorem dX11_hours_32 : decode cX11_hours 32 = .ok (.ifCond .eq 25, 3) := by decide +kernel
theorem dX11_hours_35 : decode cX11_hours 35 = .ok (.iload 4, 2) := by decide +kernel
theorem dX11_hours_37 : decode cX11_hours 37 = .ok (.iconst 0, 1) := by decide +kernel
theorem dX11_hours_38 : decode cX11_hours 38 = .ok (.iconst 1, 1) := by decide +kernel
theorem dX11_hours_39 : decode cX11_hours 39 = .ok (.invokestatic 172, 3) := by decide +kernel
theorem dX11_hours_42 : decode cX11_hours 42 = .ok (.ifCond .eq 15, 3) := by decide +kernel
theorem dX11_hours_45 : decode cX11_hours 45 = .ok (.aload_n 0, 1) := by decide +kernel
theorem dX11_hours_46 : decode cX11_hours 46 = .ok (.iload_n 1, 1) := by decide +kernel
theorem dX11_hours_47 : decode cX11_hours 47 = .ok (.iload_n 2, 1) := by decide +kernel
theorem dX11_hours_48 : decode cX11_hours 48 = .ok (.iload_n 3, 1) := by decide +kernel
theorem dX11_hours_49 : decode cX11_hours 49 = .ok (.iload 4, 2) := by decide +kernel
theorem dX11_hours_51 : decode cX11_hours 51 = .ok (.invokevirtual 244, 3) := by decide +kernel
theorem dX11_hours_54 : decode cX11_hours 54 = .ok (.goto 5, 3) := by decide +kernel
theorem dX11_hours_57 : decode cX11_hours 57 = .ok (.bipush (-2), 2) := by decide +kernel
theorem dX11_hours_59 : decode cX11_hours 59 = .ok (.ireturn, 1) := by decide +kernel
theorem dX11_isSlot_0 : decode cX11_isSlot 0 = .ok (.iload_n 0, 1) := by decide +kernel
theorem dX11_isSlot_1 : decode cX11_isSlot 1 = .ok (.iconst 0, 1) := by decide +kernel
theorem dX11_isSlot_2 : decode cX11_isSlot 2 = .ok (.iconst 2, 1) := by decide +kernel
theorem dX11_isSlot_3 : decode cX11_isSlot 3 = .ok (.invokestatic 172, 3) := by decide +kernel
theorem dX11_isSlot_6 : decode cX11_isSlot 6 = .ok (.ireturn, 1) := by decide +kernel
theorem dX11_isStuff_0 : decode cX11_isStuff 0 = .ok (.iload_n 1, 1) := by decide +kernel
theorem dX11_isStuff_1 : decode cX11_isStuff 1 = .ok (.iconst 0, 1) := by decide +kernel
theorem dX11_isStuff_2 : decode cX11_isStuff 2 = .ok (.aload_n 0, 1) := by decide +kernel
theorem dX11_isStuff_3 : decode cX11_isStuff 3 = .ok (.getfield 17, 3) := by decide +kernel
theorem dX11_isStuff_6 : decode cX11_isStuff 6 = .ok (.iconst 4, 1) := by decide +kernel
theorem dX11_isStuff_7 : decode cX11_isStuff 7 = .ok (.iaload, 1) := by decide +kernel
theorem dX11_isStuff_8 : decode cX11_isStuff 8 = .ok (.iconst 1, 1) := by decide +kernel
theorem dX11_isStuff_9 : decode cX11_isStuff 9 = .ok (.isub, 1) := by decide +kernel
theorem dX11_isStuff_10 : decode cX11_isStuff 10 = .ok (.invokestatic 172, 3) := by decide +kernel
theorem dX11_isStuff_13 : decode cX11_isStuff 13 = .ok (.ireturn, 1) := by decide +kernel
theorem dX11_keep_0 : decode cX11_keep 0 = .ok (.iload_n 1, 1) := by decide +kernel
theorem dX11_keep_1 : decode cX11_keep 1 = .ok (.invokestatic 280, 3) := by decide +kernel
theorem dX11_keep_4 : decode cX11_keep 4 = .ok (.ifCond .ne 6, 3) := by decide +kernel
theorem dX11_keep_7 : decode cX11_keep 7 = .ok (.bipush (-2), 2) := by decide +kernel
theorem dX11_keep_9 : decode cX11_keep 9 = .ok (.ireturn, 1) := by decide +kernel
theorem dX11_keep_10 : decode cX11_keep 10 = .ok (.aload_n 0, 1) := by decide +kernel
theorem dX11_keep_11 : decode cX11_keep 11 = .ok (.getfield 58, 3) := by decide +kernel
theorem dX11_keep_14 : decode cX11_keep 14 = .ok (.iload_n 1, 1) := by decide +kernel
theorem dX11_keep_15 : decode cX11_keep 15 = .ok (.iconst 1, 1) := by decide +kernel
theorem dX11_keep_16 : decode cX11_keep 16 = .ok (.bastore, 1) := by decide +kernel
theorem dX11_keep_17 : decode cX11_keep 17 = .ok (.iconst 0, 1) := by decide +kernel
theorem dX11_keep_18 : decode cX11_keep 18 = .ok (.istore_n 2, 1) := by decide +kernel
theorem dX11_keep_19 : decode cX11_keep 19 = .ok (.iload_n 2, 1) := by decide +kernel
theorem dX11_keep_20 : decode cX11_keep 20 = .ok (.sipush 854, 3) := by decide +kernel
theorem dX11_keep_23 : decode cX11_keep 23 = .ok (.if_icmp .ge 29, 3) := by decide +kernel
theorem dX11_keep_26 : decode cX11_keep 26 = .ok (.aload_n 0, 1) := by decide +kernel
theorem dX11_keep_27 : decode cX11_keep 27 = .ok (.getfield 55, 3) := by decide +kernel
theorem dX11_keep_30 : decode cX11_keep 30 = .ok (.sipush 854, 3) := by decide +kernel
theorem dX11_keep_33 : decode cX11_keep 33 = .ok (.iload_n 1, 1) := by decide +kernel
theorem dX11_keep_34 : decode cX11_keep 34 = .ok (.iconst 1, 1) := by decide +kernel
theorem dX11_keep_35 : decode cX11_keep 35 = .ok (.iadd, 1) := by decide +kernel
theorem dX11_keep_36 : decode cX11_keep 36 = .ok (.imul, 1) := by decide +kernel
theorem dX11_keep_37 : decode cX11_keep 37 = .ok (.iload_n 2, 1) := by decide +kernel
theorem dX11_keep_38 : decode cX11_keep 38 = .ok (.iadd, 1) := by decide +kernel
theorem dX11_keep_39 : decode cX11_keep 39 = .ok (.aload_n 0, 1) := by decide +kernel
theorem dX11_keep_40 : decode cX11_keep 40 = .ok (.getfield 55, 3) := by decide +kernel
theorem dX11_keep_43 : decode cX11_keep 43 = .ok (.iload_n 2, 1) := by decide +kernel
theorem dX11_keep_44 : decode cX11_keep 44 = .ok (.iaload, 1) := by decide +kernel
theorem dX11_keep_45 : decode cX11_keep 45 = .ok (.iastore, 1) := by decide +kernel
theorem dX11_keep_46 : decode cX11_keep 46 = .ok (.iinc 2 1, 3) := by decide +kernel
theorem dX11_keep_49 : decode cX11_keep 49 = .ok (.goto (-30), 3) := by decide +kernel
theorem dX11_keep_52 : decode cX11_keep 52 = .ok (.aload_n 0, 1) := by decide +kernel
theorem dX11_keep_53 : decode cX11_keep 53 = .ok (.getfield 55, 3) := by decide +kernel
theorem dX11_keep_56 : decode cX11_keep 56 = .ok (.iconst 0, 1) := by decide +kernel
theorem dX11_keep_57 : decode cX11_keep 57 = .ok (.iaload, 1) := by decide +kernel
theorem dX11_keep_58 : decode cX11_keep 58 = .ok (.ireturn, 1) := by decide +kernel
theorem dX11_lightBack_0 : decode cX11_lightBack 0 = .ok (.aload_n 0, 1) := by decide +kernel
theorem dX11_lightBack_1 : decode cX11_lightBack 1 = .ok (.iload_n 1, 1) := by decide +kernel
theorem dX11_lightBack_2 : decode cX11_lightBack 2 = .ok (.invokevirtual 264, 3) := by decide +kernel
theorem dX11_lightBack_5 : decode cX11_lightBack 5 = .ok (.ifCond .eq 28, 3) := by decide +kernel
theorem dX11_lightBack_8 : decode cX11_lightBack 8 = .ok (.iload_n 2, 1) := by decide +kernel
theorem dX11_lightBack_9 : decode cX11_lightBack 9 = .ok (.iconst 0, 1) := by decide +kernel
theorem dX11_lightBack_10 : decode cX11_lightBack 10 = .ok (.iconst 1, 1) := by decide +kernel
theorem dX11_lightBack_11 : decode cX11_lightBack 11 = .ok (.invokestatic 172, 3) := by decide +kernel
theorem dX11_lightBack_14 : decode cX11_lightBack 14 = .ok (.ifCond .eq 19, 3) := by decide +kernel
theorem dX11_lightBack_17 : decode cX11_lightBack 17 = .ok (.aload_n 0, 1) := by decide +kernel
theorem dX11_lightBack_18 : decode cX11_lightBack 18 = .ok (.iload_n 3, 1) := by decide +kernel
theorem dX11_lightBack_19 : decode cX11_lightBack 19 = .ok (.invokevirtual 251, 3) := by decide +kernel
theorem dX11_lightBack_22 : decode cX11_lightBack 22 = .ok (.ifCond .eq 11, 3) := by decide +kernel
theorem dX11_lightBack_25 : decode cX11_lightBack 25 = .ok (.iload 4, 2) := by decide +kernel
theorem dX11_lightBack_27 : decode cX11_lightBack 27 = .ok (.invokestatic 274, 3) := by decide +kernel
theorem dX11_lightBack_30 : decode cX11_lightBack 30 = .ok (.ifCond .ne 6, 3) := by decide +kernel
theorem dX11_lightBack_33 : decode cX11_lightBack 33 = .ok (.bipush (-2), 2) := by decide +kernel
theorem dX11_lightBack_35 : decode cX11_lightBack 35 = .ok (.ireturn, 1) := by decide +kernel
theorem dX11_lightBack_36 : decode cX11_lightBack 36 = .ok (.aload_n 0, 1) := by decide +kernel
theorem dX11_lightBack_37 : decode cX11_lightBack 37 = .ok (.iload_n 1, 1) := by decide +kernel
theorem dX11_lightBack_38 : decode cX11_lightBack 38 = .ok (.iload_n 2, 1) := by decide +kernel
theorem dX11_lightBack_39 : decode cX11_lightBack 39 = .ok (.iload 4, 2) := by decide +kernel
theorem dX11_lightBack_41 : decode cX11_lightBack 41 = .ok (.invokevirtual 277, 3) := by decide +kernel
theorem dX11_lightBack_44 : decode cX11_lightBack 44 = .ok (.istore 6, 2) := by decide +kernel
theorem dX11_lightBack_46 : decode cX11_lightBack 46 = .ok (.iload 6, 2) := by decide +kernel
theorem dX11_lightBack_48 : decode cX11_lightBack 48 = .ok (.ifCond .lt 17, 3) := by decide +kernel
theorem dX11_lightBack_51 : decode cX11_lightBack 51 = .ok (.aload_n 0, 1) := by decide +kernel
theorem dX11_lightBack_52 : decode cX11_lightBack 52 = .ok (.getfield 55, 3) := by decide +kernel
theorem dX11_lightBack_55 : decode cX11_lightBack 55 = .ok (.iload 6, 2) := by decide +kernel
theorem dX11_lightBack_57 : decode cX11_lightBack 57 = .ok (.bipush 6, 2) := by decide +kernel
theorem dX11_lightBack_59 : decode cX11_lightBack 59 = .ok (.iadd, 1) := by decide +kernel
theorem dX11_lightBack_60 : decode cX11_lightBack 60 = .ok (.iaload, 1) := by decide +kernel
theorem dX11_lightBack_61 : decode cX11_lightBack 61 = .ok (.iconst 1, 1) := by decide +kernel
theorem dX11_lightBack_62 : decode cX11_lightBack 62 = .ok (.if_icmp .ne 5, 3) := by decide +kernel
theorem dX11_lightBack_65 : decode cX11_lightBack 65 = .ok (.iconst (-1), 1) := by decide +kernel
theorem dX11_lightBack_66 : decode cX11_lightBack 66 = .ok (.ireturn, 1) := by decide +kernel
theorem dX11_lightBack_67 : decode cX11_lightBack 67 = .ok (.iconst (-1), 1) := by decide +kernel
theorem dX11_lightBack_68 : decode cX11_lightBack 68 = .ok (.istore 7, 2) := by decide +kernel
theorem dX11_lightBack_70 : decode cX11_lightBack 70 = .ok (.iconst 0, 1) := by decide +kernel
theorem dX11_lightBack_71 : decode cX11_lightBack 71 = .ok (.istore 8, 2) := by decide +kernel
theorem dX11_lightBack_73 : decode cX11_lightBack 73 = .ok (.iload 8, 2) := by decide +kernel
theorem dX11_lightBack_75 : decode cX11_lightBack 75 = .ok (.sipush 2000, 3) := by decide +kernel
theorem dX11_lightBack_78 : decode cX11_lightBack 78 = .ok (.if_icmp .ge 93, 3) := by decide +kernel
theorem dX11_lightBack_81 : decode cX11_lightBack 81 = .ok (.iconst 1, 1) := by decide +kernel
theorem dX11_lightBack_82 : decode cX11_lightBack 82 = .ok (.istore 9, 2) := by decide +kernel
theorem dX11_lightBack_84 : decode cX11_lightBack 84 = .ok (.iconst 0, 1) := by decide +kernel
theorem dX11_lightBack_85 : decode cX11_lightBack 85 = .ok (.istore 10, 2) := by decide +kernel
theorem dX11_lightBack_87 : decode cX11_lightBack 87 = .ok (.iload 10, 2) := by decide +kernel
theorem dX11_lightBack_89 : decode cX11_lightBack 89 = .ok (.iconst 3, 1) := by decide +kernel
theorem dX11_lightBack_90 : decode cX11_lightBack 90 = .ok (.if_icmp .ge 55, 3) := by decide +kernel
theorem dX11_lightBack_93 : decode cX11_lightBack 93 = .ok (.iload 9, 2) := by decide +kernel
theorem dX11_lightBack_95 : decode cX11_lightBack 95 = .ok (.ifCond .eq 50, 3) := by decide +kernel
theorem dX11_lightBack_98 : decode cX11_lightBack 98 = .ok (.aload_n 0, 1) := by decide +kernel
theorem dX11_lightBack_99 : decode cX11_lightBack 99 = .ok (.iload_n 3, 1) := by decide +kernel
theorem dX11_lightBack_100 : decode cX11_lightBack 100 = .ok (.iload 8, 2) := by decide +kernel
theorem dX11_lightBack_102 : decode cX11_lightBack 102 = .ok (.iload 10, 2) := by decide +kernel
theorem dX11_lightBack_104 : decode cX11_lightBack 104 = .ok (.invokevirtual 257, 3) := by decide +kernel
theorem dX11_lightBack_107 : decode cX11_lightBack 107 = .ok (.aload_n 0, 1) := by decide +kernel
theorem dX11_lightBack_108 : decode cX11_lightBack 108 = .ok (.getfield 55, 3) := by decide +kernel
theorem dX11_lightBack_111 : decode cX11_lightBack 111 = .ok (.iload 6, 2) := by decide +kernel
theorem dX11_lightBack_113 : decode cX11_lightBack 113 = .ok (.iconst 3, 1) := by decide +kernel
theorem dX11_lightBack_114 : decode cX11_lightBack 114 = .ok (.iadd, 1) := by decide +kernel
theorem dX11_lightBack_115 : decode cX11_lightBack 115 = .ok (.iload 10, 2) := by decide +kernel
theorem dX11_lightBack_117 : decode cX11_lightBack 117 = .ok (.iadd, 1) := by decide +kernel
theorem dX11_lightBack_118 : decode cX11_lightBack 118 = .ok (.iaload, 1) := by decide +kernel
theorem dX11_lightBack_119 : decode cX11_lightBack 119 = .ok (.isub, 1) := by decide +kernel
theorem dX11_lightBack_120 : decode cX11_lightBack 120 = .ok (.invokestatic 290, 3) := by decide +kernel
theorem dX11_lightBack_123 : decode cX11_lightBack 123 = .ok (.aload_n 0, 1) := by decide +kernel
theorem dX11_lightBack_124 : decode cX11_lightBack 124 = .ok (.getfield 17, 3) := by decide +kernel
theorem dX11_lightBack_127 : decode cX11_lightBack 127 = .ok (.iconst 2, 1) := by decide +kernel
theorem dX11_lightBack_128 : decode cX11_lightBack 128 = .ok (.iaload, 1) := by decide +kernel
theorem dX11_lightBack_129 : decode cX11_lightBack 129 = .ok (.if_icmp .gt 7, 3) := by decide +kernel
theorem dX11_lightBack_132 : decode cX11_lightBack 132 = .ok (.iconst 1, 1) := by decide +kernel
theorem dX11_lightBack_133 : decode cX11_lightBack 133 = .ok (.goto 4, 3) := by decide +kernel
theorem dX11_lightBack_136 : decode cX11_lightBack 136 = .ok (.iconst 0, 1) := by decide +kernel
theorem dX11_lightBack_137 : decode cX11_lightBack 137 = .ok (.istore 9, 2) := by decide +kernel
theorem dX11_lightBack_139 : decode cX11_lightBack 139 = .ok (.iinc 10 1, 3) := by decide +kernel
theorem dX11_lightBack_142 : decode cX11_lightBack 142 = .ok (.goto (-55), 3) := by decide +kernel
theorem dX11_lightBack_145 : decode cX11_lightBack 145 = .ok (.iload 9, 2) := by decide +kernel
theorem dX11_lightBack_147 : decode cX11_lightBack 147 = .ok (.ifCond .eq 18, 3) := by decide +kernel
theorem dX11_lightBack_150 : decode cX11_lightBack 150 = .ok (.iload 5, 2) := by decide +kernel
theorem dX11_lightBack_152 : decode cX11_lightBack 152 = .ok (.ifCond .ne 9, 3) := by decide +kernel
theorem dX11_lightBack_155 : decode cX11_lightBack 155 = .ok (.iload 7, 2) := by decide +kernel
theorem dX11_lightBack_157 : decode cX11_lightBack 157 = .ok (.iconst (-1), 1) := by decide +kernel
theorem dX11_lightBack_158 : decode cX11_lightBack 158 = .ok (.if_icmp .ne 7, 3) := by decide +kernel
theorem dX11_lightBack_161 : decode cX11_lightBack 161 = .ok (.iload 8, 2) := by decide +kernel
theorem dX11_lightBack_163 : decode cX11_lightBack 163 = .ok (.istore 7, 2) := by decide +kernel
theorem dX11_lightBack_165 : decode cX11_lightBack 165 = .ok (.iinc 8 1, 3) := by decide +kernel
theorem dX11_lightBack_168 : decode cX11_lightBack 168 = .ok (.goto (-95), 3) := by decide +kernel
theorem dX11_lightBack_171 : decode cX11_lightBack 171 = .ok (.iload 7, 2) := by decide +kernel
theorem dX11_lightBack_173 : decode cX11_lightBack 173 = .ok (.ireturn, 1) := by decide +kernel
theorem dX11_look_0 : decode cX11_look 0 = .ok (.aload_n 0, 1) := by decide +kernel
theorem dX11_look_1 : decode cX11_look 1 = .ok (.iload_n 1, 1) := by decide +kernel
theorem dX11_look_2 : decode cX11_look 2 = .ok (.invokevirtual 261, 3) := by decide +kernel
theorem dX11_look_5 : decode cX11_look 5 = .ok (.ifCond .eq 49, 3) := by decide +kernel
theorem dX11_look_8 : decode cX11_look 8 = .ok (.aload_n 0, 1) := by decide +kernel
theorem dX11_look_9 : decode cX11_look 9 = .ok (.iload_n 2, 1) := by decide +kernel
theorem dX11_look_10 : decode cX11_look 10 = .ok (.invokevirtual 264, 3) := by decide +kernel
theorem dX11_look_13 : decode cX11_look 13 = .ok (.ifCond .eq 41, 3) := by decide +kernel
theorem dX11_look_16 : decode cX11_look 16 = .ok (.iload_n 3, 1) := by decide +kernel
theorem dX11_look_17 : decode cX11_look 17 = .ok (.iconst 0, 1) := by decide +kernel
theorem dX11_look_18 : decode cX11_look 18 = .ok (.iconst 1, 1) := by decide +kernel
theorem dX11_look_19 : decode cX11_look 19 = .ok (.invokestatic 172, 3) := by decide +kernel
theorem dX11_look_22 : decode cX11_look 22 = .ok (.ifCond .eq 32, 3) := by decide +kernel
theorem dX11_look_25 : decode cX11_look 25 = .ok (.iload 4, 2) := by decide +kernel
theorem dX11_look_27 : decode cX11_look 27 = .ok (.iload 5, 2) := by decide +kernel
theorem dX11_look_29 : decode cX11_look 29 = .ok (.iload 6, 2) := by decide +kernel
theorem dX11_look_31 : decode cX11_look 31 = .ok (.invokestatic 267, 3) := by decide +kernel
theorem dX11_look_34 : decode cX11_look 34 = .ok (.ifCond .eq 20, 3) := by decide +kernel
theorem dX11_look_37 : decode cX11_look 37 = .ok (.aload_n 0, 1) := by decide +kernel
theorem dX11_look_38 : decode cX11_look 38 = .ok (.iload_n 1, 1) := by decide +kernel
theorem dX11_look_39 : decode cX11_look 39 = .ok (.iload_n 2, 1) := by decide +kernel
theorem dX11_look_40 : decode cX11_look 40 = .ok (.iload_n 3, 1) := by decide +kernel
theorem dX11_look_41 : decode cX11_look 41 = .ok (.iload 4, 2) := by decide +kernel
theorem dX11_look_43 : decode cX11_look 43 = .ok (.iload 5, 2) := by decide +kernel
theorem dX11_look_45 : decode cX11_look 45 = .ok (.iload 6, 2) := by decide +kernel
theorem dX11_look_47 : decode cX11_look 47 = .ok (.iconst 0, 1) := by decide +kernel
theorem dX11_look_48 : decode cX11_look 48 = .ok (.invokevirtual 270, 3) := by decide +kernel
theorem dX11_look_51 : decode cX11_look 51 = .ok (.goto 5, 3) := by decide +kernel
theorem dX11_look_54 : decode cX11_look 54 = .ok (.bipush (-2), 2) := by decide +kernel
theorem dX11_look_56 : decode cX11_look 56 = .ok (.ireturn, 1) := by decide +kernel
theorem dX11_mark_0 : decode cX11_mark 0 = .ok (.iconst 0, 1) := by decide +kernel
theorem dX11_mark_1 : decode cX11_mark 1 = .ok (.istore_n 2, 1) := by decide +kernel
theorem dX11_mark_2 : decode cX11_mark 2 = .ok (.iload_n 2, 1) := by decide +kernel
theorem dX11_mark_3 : decode cX11_mark 3 = .ok (.aload_n 0, 1) := by decide +kernel
theorem dX11_mark_4 : decode cX11_mark 4 = .ok (.getfield 189, 3) := by decide +kernel
theorem dX11_mark_7 : decode cX11_mark 7 = .ok (.if_icmp .ge 13, 3) := by decide +kernel
theorem dX11_mark_10 : decode cX11_mark 10 = .ok (.aload_n 1, 1) := by decide +kernel
theorem dX11_mark_11 : decode cX11_mark 11 = .ok (.iload_n 2, 1) := by decide +kernel
theorem dX11_mark_12 : decode cX11_mark 12 = .ok (.iconst 0, 1) := by decide +kernel
theorem dX11_mark_13 : decode cX11_mark 13 = .ok (.bastore, 1) := by decide +kernel
theorem dX11_mark_14 : decode cX11_mark 14 = .ok (.iinc 2 1, 3) := by decide +kernel
theorem dX11_mark_17 : decode cX11_mark 17 = .ok (.goto (-15), 3) := by decide +kernel
theorem dX11_mark_20 : decode cX11_mark 20 = .ok (.iconst 0, 1) := by decide +kernel
theorem dX11_mark_21 : decode cX11_mark 21 = .ok (.istore_n 2, 1) := by decide +kernel
theorem dX11_mark_22 : decode cX11_mark 22 = .ok (.iload_n 2, 1) := by decide +kernel
theorem dX11_mark_23 : decode cX11_mark 23 = .ok (.aload_n 0, 1) := by decide +kernel
theorem dX11_mark_24 : decode cX11_mark 24 = .ok (.getfield 300, 3) := by decide +kernel
theorem dX11_mark_27 : decode cX11_mark 27 = .ok (.if_icmp .ge 18, 3) := by decide +kernel
theorem dX11_mark_30 : decode cX11_mark 30 = .ok (.aload_n 1, 1) := by decide +kernel
theorem dX11_mark_31 : decode cX11_mark 31 = .ok (.aload_n 0, 1) := by decide +kernel
theorem dX11_mark_32 : decode cX11_mark 32 = .ok (.getfield 71, 3) := by decide +kernel
theorem dX11_mark_35 : decode cX11_mark 35 = .ok (.iload_n 2, 1) := by decide +kernel
theorem dX11_mark_36 : decode cX11_mark 36 = .ok (.iaload, 1) := by decide +kernel
theorem dX11_mark_37 : decode cX11_mark 37 = .ok (.iconst 1, 1) := by decide +kernel
theorem dX11_mark_38 : decode cX11_mark 38 = .ok (.bastore, 1) := by decide +kernel
theorem dX11_mark_39 : decode cX11_mark 39 = .ok (.iinc 2 1, 3) := by decide +kernel
theorem dX11_mark_42 : decode cX11_mark 42 = .ok (.goto (-20), 3) := by decide +kernel
theorem dX11_mark_45 : decode cX11_mark 45 = .ok (.return_, 1) := by decide +kernel
theorem dX11_mended_0 : decode cX11_mended 0 = .ok (.aload_n 0, 1) := by decide +kernel
theorem dX11_mended_1 : decode cX11_mended 1 = .ok (.iload_n 1, 1) := by decide +kernel
theorem dX11_mended_2 : decode cX11_mended 2 = .ok (.iload_n 2, 1) := by decide +kernel
theorem dX11_mended_3 : decode cX11_mended 3 = .ok (.iload_n 3, 1) := by decide +kernel
theorem dX11_mended_4 : decode cX11_mended 4 = .ok (.invokevirtual 310, 3) := by decide +kernel
theorem dX11_mended_7 : decode cX11_mended 7 = .ok (.ifCond .ne 6, 3) := by decide +kernel
theorem dX11_mended_10 : decode cX11_mended 10 = .ok (.bipush (-2), 2) := by decide +kernel
theorem dX11_mended_12 : decode cX11_mended 12 = .ok (.ireturn, 1) := by decide +kernel
theorem dX11_mended_13 : decode cX11_mended 13 = .ok (.aload_n 0, 1) := by decide +kernel
theorem dX11_mended_14 : decode cX11_mended 14 = .ok (.iload_n 1, 1) := by decide +kernel
theorem dX11_mended_15 : decode cX11_mended 15 = .ok (.iload_n 2, 1) := by decide +kernel
theorem dX11_mended_16 : decode cX11_mended 16 = .ok (.iload_n 3, 1) := by decide +kernel
theorem dX11_mended_17 : decode cX11_mended 17 = .ok (.invokevirtual 313, 3) := by decide +kernel
theorem dX11_mended_20 : decode cX11_mended 20 = .ok (.iconst 0, 1) := by decide +kernel
theorem dX11_mended_21 : decode cX11_mended 21 = .ok (.istore 4, 2) := by decide +kernel
theorem dX11_mended_23 : decode cX11_mended 23 = .ok (.iconst 0, 1) := by decide +kernel
theorem dX11_mended_24 : decode cX11_mended 24 = .ok (.istore 5, 2) := by decide +kernel
theorem dX11_mended_26 : decode cX11_mended 26 = .ok (.iload 5, 2) := by decide +kernel
theorem dX11_mended_28 : decode cX11_mended 28 = .ok (.aload_n 0, 1) := by decide +kernel
theorem dX11_mended_29 : decode cX11_mended 29 = .ok (.getfield 300, 3) := by decide +kernel
theorem dX11_mended_32 : decode cX11_mended 32 = .ok (.if_icmp .ge 29, 3) := by decide +kernel
theorem dX11_mended_35 : decode cX11_mended 35 = .ok (.iload 4, 2) := by decide +kernel
theorem dX11_mended_37 : decode cX11_mended 37 = .ok (.aload_n 0, 1) := by decide +kernel
theorem dX11_mended_38 : decode cX11_mended 38 = .ok (.getfield 74, 3) := by decide +kernel
theorem dX11_mended_41 : decode cX11_mended 41 = .ok (.iload 5, 2) := by decide +kernel
theorem dX11_mended_43 : decode cX11_mended 43 = .ok (.iaload, 1) := by decide +kernel
theorem dX11_mended_44 : decode cX11_mended 44 = .ok (.ifCond .ne 7, 3) := by decide +kernel
theorem dX11_mended_47 : decode cX11_mended 47 = .ok (.iconst 1, 1) := by decide +kernel
theorem dX11_mended_48 : decode cX11_mended 48 = .ok (.goto 4, 3) := by decide +kernel
theorem dX11_mended_51 : decode cX11_mended 51 = .ok (.iconst 0, 1) := by decide +kernel
theorem dX11_mended_52 : decode cX11_mended 52 = .ok (.iadd, 1) := by decide +kernel
theorem dX11_mended_53 : decode cX11_mended 53 = .ok (.istore 4, 2) := by decide +kernel
theorem dX11_mended_55 : decode cX11_mended 55 = .ok (.iinc 5 1, 3) := by decide +kernel
theorem dX11_mended_58 : decode cX11_mended 58 = .ok (.goto (-32), 3) := by decide +kernel
theorem dX11_mended_61 : decode cX11_mended 61 = .ok (.aload_n 0, 1) := by decide +kernel
theorem dX11_mended_62 : decode cX11_mended 62 = .ok (.getfield 300, 3) := by decide +kernel
theorem dX11_mended_65 : decode cX11_mended 65 = .ok (.ifCond .ne 7, 3) := by decide +kernel
theorem dX11_mended_68 : decode cX11_mended 68 = .ok (.iconst (-1), 1) := by decide +kernel
theorem dX11_mended_69 : decode cX11_mended 69 = .ok (.goto 26, 3) := by decide +kernel
theorem dX11_mended_72 : decode cX11_mended 72 = .ok (.iload 4, 2) := by decide +kernel
theorem dX11_mended_74 : decode cX11_mended 74 = .ok (.aload_n 0, 1) := by decide +kernel
theorem dX11_mended_75 : decode cX11_mended 75 = .ok (.getfield 300, 3) := by decide +kernel
theorem dX11_mended_78 : decode cX11_mended 78 = .ok (.if_icmp .ne 7, 3) := by decide +kernel
theorem dX11_mended_81 : decode cX11_mended 81 = .ok (.iconst 0, 1) := by decide +kernel
theorem dX11_mended_82 : decode cX11_mended 82 = .ok (.goto 13, 3) := by decide +kernel
theorem dX11_mended_85 : decode cX11_mended 85 = .ok (.iload 4, 2) := by decide +kernel
theorem dX11_mended_87 : decode cX11_mended 87 = .ok (.ifCond .ne 7, 3) := by decide +kernel
theorem dX11_mended_90 : decode cX11_mended 90 = .ok (.iconst 1, 1) := by decide +kernel
theorem dX11_mended_91 : decode cX11_mended 91 = .ok (.goto 4, 3) := by decide +kernel
theorem dX11_mended_94 : decode cX11_mended 94 = .ok (.iconst 2, 1) := by decide +kernel
theorem dX11_mended_95 : decode cX11_mended 95 = .ok (.ireturn, 1) := by decide +kernel
theorem dX11_mostAlike_0 : decode cX11_mostAlike 0 = .ok (.iconst 0, 1) := by decide +kernel
theorem dX11_mostAlike_1 : decode cX11_mostAlike 1 = .ok (.istore 4, 2) := by decide +kernel
theorem dX11_mostAlike_3 : decode cX11_mostAlike 3 = .ok (.iload 4, 2) := by decide +kernel
theorem dX11_mostAlike_5 : decode cX11_mostAlike 5 = .ok (.sipush 8192, 3) := by decide +kernel
theorem dX11_mostAlike_8 : decode cX11_mostAlike 8 = .ok (.if_icmp .ge 17, 3) := by decide +kernel
theorem dX11_mostAlike_11 : decode cX11_mostAlike 11 = .ok (.aload_n 0, 1) := by decide +kernel
theorem dX11_mostAlike_12 : decode cX11_mostAlike 12 = .ok (.getfield 92, 3) := by decide +kernel
theorem dX11_mostAlike_15 : decode cX11_mostAlike 15 = .ok (.iload 4, 2) := by decide +kernel
theorem dX11_mostAlike_17 : decode cX11_mostAlike 17 = .ok (.iconst 0, 1) := by decide +kernel
theorem dX11_mostAlike_18 : decode cX11_mostAlike 18 = .ok (.iastore, 1) := by decide +kernel
theorem dX11_mostAlike_19 : decode cX11_mostAlike 19 = .ok (.iinc 4 1, 3) := by decide +kernel
theorem dX11_mostAlike_22 : decode cX11_mostAlike 22 = .ok (.goto (-19), 3) := by decide +kernel
theorem dX11_mostAlike_25 : decode cX11_mostAlike 25 = .ok (.iconst 0, 1) := by decide +kernel
theorem dX11_mostAlike_26 : decode cX11_mostAlike 26 = .ok (.istore 4, 2) := by decide +kernel
theorem dX11_mostAlike_28 : decode cX11_mostAlike 28 = .ok (.iconst 0, 1) := by decide +kernel
theorem dX11_mostAlike_29 : decode cX11_mostAlike 29 = .ok (.istore 5, 2) := by decide +kernel
theorem dX11_mostAlike_31 : decode cX11_mostAlike 31 = .ok (.iload 5, 2) := by decide +kernel
theorem dX11_mostAlike_33 : decode cX11_mostAlike 33 = .ok (.aload_n 0, 1) := by decide +kernel
theorem dX11_mostAlike_34 : decode cX11_mostAlike 34 = .ok (.getfield 300, 3) := by decide +kernel
theorem dX11_mostAlike_37 : decode cX11_mostAlike 37 = .ok (.if_icmp .ge 172, 3) := by decide +kernel
theorem dX11_mostAlike_40 : decode cX11_mostAlike 40 = .ok (.aload_n 0, 1) := by decide +kernel
theorem dX11_mostAlike_41 : decode cX11_mostAlike 41 = .ok (.iload_n 1, 1) := by decide +kernel
theorem dX11_mostAlike_42 : decode cX11_mostAlike 42 = .ok (.iload_n 2, 1) := by decide +kernel
theorem dX11_mostAlike_43 : decode cX11_mostAlike 43 = .ok (.aload_n 0, 1) := by decide +kernel
theorem dX11_mostAlike_44 : decode cX11_mostAlike 44 = .ok (.getfield 74, 3) := by decide +kernel
theorem dX11_mostAlike_47 : decode cX11_mostAlike 47 = .ok (.iload 5, 2) := by decide +kernel
theorem dX11_mostAlike_49 : decode cX11_mostAlike 49 = .ok (.iaload, 1) := by decide +kernel
theorem dX11_mostAlike_50 : decode cX11_mostAlike 50 = .ok (.iconst 0, 1) := by decide +kernel
theorem dX11_mostAlike_51 : decode cX11_mostAlike 51 = .ok (.invokevirtual 244, 3) := by decide +kernel
theorem dX11_mostAlike_54 : decode cX11_mostAlike 54 = .ok (.iload_n 3, 1) := by decide +kernel
theorem dX11_mostAlike_55 : decode cX11_mostAlike 55 = .ok (.iadd, 1) := by decide +kernel
theorem dX11_mostAlike_56 : decode cX11_mostAlike 56 = .ok (.istore 6, 2) := by decide +kernel
theorem dX11_mostAlike_58 : decode cX11_mostAlike 58 = .ok (.sipush 10000, 3) := by decide +kernel
theorem dX11_mostAlike_61 : decode cX11_mostAlike 61 = .ok (.aload_n 0, 1) := by decide +kernel
theorem dX11_mostAlike_62 : decode cX11_mostAlike 62 = .ok (.aload_n 0, 1) := by decide +kernel
theorem dX11_mostAlike_63 : decode cX11_mostAlike 63 = .ok (.getfield 71, 3) := by decide +kernel
theorem dX11_mostAlike_66 : decode cX11_mostAlike 66 = .ok (.iload 5, 2) := by decide +kernel
theorem dX11_mostAlike_68 : decode cX11_mostAlike 68 = .ok (.iaload, 1) := by decide +kernel
theorem dX11_mostAlike_69 : decode cX11_mostAlike 69 = .ok (.iload 6, 2) := by decide +kernel
theorem dX11_mostAlike_71 : decode cX11_mostAlike 71 = .ok (.iconst 0, 1) := by decide +kernel
theorem dX11_mostAlike_72 : decode cX11_mostAlike 72 = .ok (.invokevirtual 257, 3) := by decide +kernel
theorem dX11_mostAlike_75 : decode cX11_mostAlike 75 = .ok (.imul, 1) := by decide +kernel
theorem dX11_mostAlike_76 : decode cX11_mostAlike 76 = .ok (.bipush 100, 2) := by decide +kernel
theorem dX11_mostAlike_78 : decode cX11_mostAlike 78 = .ok (.aload_n 0, 1) := by decide +kernel
theorem dX11_mostAlike_79 : decode cX11_mostAlike 79 = .ok (.aload_n 0, 1) := by decide +kernel
theorem dX11_mostAlike_80 : decode cX11_mostAlike 80 = .ok (.getfield 71, 3) := by decide +kernel
theorem dX11_mostAlike_83 : decode cX11_mostAlike 83 = .ok (.iload 5, 2) := by decide +kernel
theorem dX11_mostAlike_85 : decode cX11_mostAlike 85 = .ok (.iaload, 1) := by decide +kernel
theorem dX11_mostAlike_86 : decode cX11_mostAlike 86 = .ok (.iload 6, 2) := by decide +kernel
theorem dX11_mostAlike_88 : decode cX11_mostAlike 88 = .ok (.iconst 1, 1) := by decide +kernel
theorem dX11_mostAlike_89 : decode cX11_mostAlike 89 = .ok (.invokevirtual 257, 3) := by decide +kernel
theorem dX11_mostAlike_92 : decode cX11_mostAlike 92 = .ok (.imul, 1) := by decide +kernel
theorem dX11_mostAlike_93 : decode cX11_mostAlike 93 = .ok (.iadd, 1) := by decide +kernel
theorem dX11_mostAlike_94 : decode cX11_mostAlike 94 = .ok (.aload_n 0, 1) := by decide +kernel
theorem dX11_mostAlike_95 : decode cX11_mostAlike 95 = .ok (.aload_n 0, 1) := by decide +kernel
theorem dX11_mostAlike_96 : decode cX11_mostAlike 96 = .ok (.getfield 71, 3) := by decide +kernel
theorem dX11_mostAlike_99 : decode cX11_mostAlike 99 = .ok (.iload 5, 2) := by decide +kernel
theorem dX11_mostAlike_101 : decode cX11_mostAlike 101 = .ok (.iaload, 1) := by decide +kernel
theorem dX11_mostAlike_102 : decode cX11_mostAlike 102 = .ok (.iload 6, 2) := by decide +kernel
theorem dX11_mostAlike_104 : decode cX11_mostAlike 104 = .ok (.iconst 2, 1) := by decide +kernel
theorem dX11_mostAlike_105 : decode cX11_mostAlike 105 = .ok (.invokevirtual 257, 3) := by decide +kernel
theorem dX11_mostAlike_108 : decode cX11_mostAlike 108 = .ok (.iadd, 1) := by decide +kernel
theorem dX11_mostAlike_109 : decode cX11_mostAlike 109 = .ok (.istore 7, 2) := by decide +kernel
theorem dX11_mostAlike_111 : decode cX11_mostAlike 111 = .ok (.iload 7, 2) := by decide +kernel
theorem dX11_mostAlike_113 : decode cX11_mostAlike 113 = .ok (.bipush 31, 2) := by decide +kernel
theorem dX11_mostAlike_115 : decode cX11_mostAlike 115 = .ok (.imul, 1) := by decide +kernel
theorem dX11_mostAlike_116 : decode cX11_mostAlike 116 = .ok (.sipush 8192, 3) := by decide +kernel
theorem dX11_mostAlike_119 : decode cX11_mostAlike 119 = .ok (.irem, 1) := by decide +kernel
theorem dX11_mostAlike_120 : decode cX11_mostAlike 120 = .ok (.istore 8, 2) := by decide +kernel
theorem dX11_mostAlike_122 : decode cX11_mostAlike 122 = .ok (.aload_n 0, 1) := by decide +kernel
theorem dX11_mostAlike_123 : decode cX11_mostAlike 123 = .ok (.getfield 92, 3) := by decide +kernel
theorem dX11_mostAlike_126 : decode cX11_mostAlike 126 = .ok (.iload 8, 2) := by decide +kernel
theorem dX11_mostAlike_128 : decode cX11_mostAlike 128 = .ok (.iaload, 1) := by decide +kernel
theorem dX11_mostAlike_129 : decode cX11_mostAlike 129 = .ok (.ifCond .le 28, 3) := by decide +kernel
theorem dX11_mostAlike_132 : decode cX11_mostAlike 132 = .ok (.aload_n 0, 1) := by decide +kernel
theorem dX11_mostAlike_133 : decode cX11_mostAlike 133 = .ok (.getfield 89, 3) := by decide +kernel
theorem dX11_mostAlike_136 : decode cX11_mostAlike 136 = .ok (.iload 8, 2) := by decide +kernel
theorem dX11_mostAlike_138 : decode cX11_mostAlike 138 = .ok (.iaload, 1) := by decide +kernel
theorem dX11_mostAlike_139 : decode cX11_mostAlike 139 = .ok (.iload 7, 2) := by decide +kernel
theorem dX11_mostAlike_141 : decode cX11_mostAlike 141 = .ok (.if_icmp .eq 16, 3) := by decide +kernel
theorem dX11_mostAlike_144 : decode cX11_mostAlike 144 = .ok (.iload 8, 2) := by decide +kernel
theorem dX11_mostAlike_146 : decode cX11_mostAlike 146 = .ok (.iconst 1, 1) := by decide +kernel
theorem dX11_mostAlike_147 : decode cX11_mostAlike 147 = .ok (.iadd, 1) := by decide +kernel
theorem dX11_mostAlike_148 : decode cX11_mostAlike 148 = .ok (.sipush 8192, 3) := by decide +kernel
theorem dX11_mostAlike_151 : decode cX11_mostAlike 151 = .ok (.irem, 1) := by decide +kernel
theorem dX11_mostAlike_152 : decode cX11_mostAlike 152 = .ok (.istore 8, 2) := by decide +kernel
theorem dX11_mostAlike_154 : decode cX11_mostAlike 154 = .ok (.goto (-32), 3) := by decide +kernel
theorem dX11_mostAlike_157 : decode cX11_mostAlike 157 = .ok (.aload_n 0, 1) := by decide +kernel
theorem dX11_mostAlike_158 : decode cX11_mostAlike 158 = .ok (.getfield 89, 3) := by decide +kernel
theorem dX11_mostAlike_161 : decode cX11_mostAlike 161 = .ok (.iload 8, 2) := by decide +kernel
theorem dX11_mostAlike_163 : decode cX11_mostAlike 163 = .ok (.iload 7, 2) := by decide +kernel
theorem dX11_mostAlike_165 : decode cX11_mostAlike 165 = .ok (.iastore, 1) := by decide +kernel
theorem dX11_mostAlike_166 : decode cX11_mostAlike 166 = .ok (.aload_n 0, 1) := by decide +kernel
theorem dX11_mostAlike_167 : decode cX11_mostAlike 167 = .ok (.getfield 92, 3) := by decide +kernel
theorem dX11_mostAlike_170 : decode cX11_mostAlike 170 = .ok (.iload 8, 2) := by decide +kernel
theorem dX11_mostAlike_172 : decode cX11_mostAlike 172 = .ok (.dup2, 1) := by decide +kernel
theorem dX11_mostAlike_173 : decode cX11_mostAlike 173 = .ok (.iaload, 1) := by decide +kernel
theorem dX11_mostAlike_174 : decode cX11_mostAlike 174 = .ok (.iconst 1, 1) := by decide +kernel
theorem dX11_mostAlike_175 : decode cX11_mostAlike 175 = .ok (.iadd, 1) := by decide +kernel
theorem dX11_mostAlike_176 : decode cX11_mostAlike 176 = .ok (.iastore, 1) := by decide +kernel
theorem dX11_mostAlike_177 : decode cX11_mostAlike 177 = .ok (.aload_n 0, 1) := by decide +kernel
theorem dX11_mostAlike_178 : decode cX11_mostAlike 178 = .ok (.getfield 92, 3) := by decide +kernel
theorem dX11_mostAlike_181 : decode cX11_mostAlike 181 = .ok (.iload 8, 2) := by decide +kernel
theorem dX11_mostAlike_183 : decode cX11_mostAlike 183 = .ok (.iaload, 1) := by decide +kernel
theorem dX11_mostAlike_184 : decode cX11_mostAlike 184 = .ok (.iload 4, 2) := by decide +kernel
theorem dX11_mostAlike_186 : decode cX11_mostAlike 186 = .ok (.if_icmp .le 13, 3) := by decide +kernel
theorem dX11_mostAlike_189 : decode cX11_mostAlike 189 = .ok (.aload_n 0, 1) := by decide +kernel
theorem dX11_mostAlike_190 : decode cX11_mostAlike 190 = .ok (.getfield 92, 3) := by decide +kernel
theorem dX11_mostAlike_193 : decode cX11_mostAlike 193 = .ok (.iload 8, 2) := by decide +kernel
theorem dX11_mostAlike_195 : decode cX11_mostAlike 195 = .ok (.iaload, 1) := by decide +kernel
theorem dX11_mostAlike_196 : decode cX11_mostAlike 196 = .ok (.goto 5, 3) := by decide +kernel
theorem dX11_mostAlike_199 : decode cX11_mostAlike 199 = .ok (.iload 4, 2) := by decide +kernel
theorem dX11_mostAlike_201 : decode cX11_mostAlike 201 = .ok (.istore 4, 2) := by decide +kernel
theorem dX11_mostAlike_203 : decode cX11_mostAlike 203 = .ok (.iinc 5 1, 3) := by decide +kernel
theorem dX11_mostAlike_206 : decode cX11_mostAlike 206 = .ok (.goto (-175), 3) := by decide +kernel
theorem dX11_mostAlike_209 : decode cX11_mostAlike 209 = .ok (.iload 4, 2) := by decide +kernel
theorem dX11_mostAlike_211 : decode cX11_mostAlike 211 = .ok (.ireturn, 1) := by decide +kernel
theorem dX11_next_0 : decode cX11_next 0 = .ok (.aload_n 0, 1) := by decide +kernel
theorem dX11_next_1 : decode cX11_next 1 = .ok (.iload_n 1, 1) := by decide +kernel
theorem dX11_next_2 : decode cX11_next 2 = .ok (.invokevirtual 225, 3) := by decide +kernel
theorem dX11_next_5 : decode cX11_next 5 = .ok (.ifCond .eq 14, 3) := by decide +kernel
theorem dX11_next_8 : decode cX11_next 8 = .ok (.iload_n 2, 1) := by decide +kernel
theorem dX11_next_9 : decode cX11_next 9 = .ok (.iconst 1, 1) := by decide +kernel
theorem dX11_next_10 : decode cX11_next 10 = .ok (.sipush 999, 3) := by decide +kernel
theorem dX11_next_13 : decode cX11_next 13 = .ok (.invokestatic 172, 3) := by decide +kernel
theorem dX11_next_16 : decode cX11_next 16 = .ok (.ifCond .ne 6, 3) := by decide +kernel
theorem dX11_next_19 : decode cX11_next 19 = .ok (.bipush (-2), 2) := by decide +kernel
theorem dX11_next_21 : decode cX11_next 21 = .ok (.ireturn, 1) := by decide +kernel
theorem dX11_next_22 : decode cX11_next 22 = .ok (.iconst (-1), 1) := by decide +kernel
theorem dX11_next_23 : decode cX11_next 23 = .ok (.istore_n 3, 1) := by decide +kernel
theorem dX11_next_24 : decode cX11_next 24 = .ok (.lconst 0, 1) := by decide +kernel
theorem dX11_next_25 : decode cX11_next 25 = .ok (.lstore 4, 2) := by decide +kernel
theorem dX11_next_27 : decode cX11_next 27 = .ok (.lconst 1, 1) := by decide +kernel
