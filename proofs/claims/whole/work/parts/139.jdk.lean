theorem wc_J0_length_8abf5 : (Cond.code yJ0_length_8abf5 cJ0_length_8abf5 1 (some .int)) ∈ ea_tbl := ea_inT 568 (by decide +kernel) rfl
theorem wc_J0_charAt_5068e : (Cond.code yJ0_charAt_5068e cJ0_charAt_5068e 2 (some .char)) ∈ ea_tbl := ea_inT 578 (by decide +kernel) rfl
theorem wc_J0_coder_7d493 : (Cond.code yJ0_coder_7d493 cJ0_coder_7d493 1 (some .byte)) ∈ ea_tbl := ea_inT 572 (by decide +kernel) rfl
theorem wc_J0_isLatin1_aae02 : (Cond.code yJ0_isLatin1_aae02 cJ0_isLatin1_aae02 1 (some .boolean)) ∈ ea_tbl := ea_inT 582 (by decide +kernel) rfl
theorem wc_J0_checkIndex_df160 : (Cond.code yJ0_checkIndex_df160 cJ0_checkIndex_df160 2 none) ∈ ea_tbl := ea_inT 588 (by decide +kernel) rfl
theorem wc_J1_charAt_3b067 : (Cond.code yJ1_charAt_3b067 cJ1_charAt_3b067 2 (some .char)) ∈ ea_tbl := ea_inT 585 (by decide +kernel) rfl
theorem wc_J3_checkIndex_8e157 : (Cond.code yJ3_checkIndex_8e157 cJ3_checkIndex_8e157 3 (some .int)) ∈ ea_tbl := ea_inT 593 (by decide +kernel) rfl
theorem wi_RJ0 : (Cond.initialized RJ0) ∈ ea_tbl := ea_inT 107 (by decide +kernel) rfl
theorem wi_RJ1 : (Cond.initialized RJ1) ∈ ea_tbl := ea_inT 108 (by decide +kernel) rfl
theorem wi_RJ3 : (Cond.initialized RJ3) ∈ ea_tbl := ea_inT 109 (by decide +kernel) rfl
theorem wt_J0_checkIndex_df160 : (Cond.static yJ0_checkIndex_df160) ∈ ea_tbl := ea_inT 587 (by decide +kernel) rfl
theorem wt_J1_charAt_3b067 : (Cond.static yJ1_charAt_3b067) ∈ ea_tbl := ea_inT 584 (by decide +kernel) rfl
theorem wt_J3_checkIndex_8e157 : (Cond.static yJ3_checkIndex_8e157) ∈ ea_tbl := ea_inT 592 (by decide +kernel) rfl
theorem wv_J0_length_8abf5 : (Cond.instanceMethod yJ0_length_8abf5) ∈ ea_tbl := ea_inT 566 (by decide +kernel) rfl
theorem wz_J0_length_8abf5 : (Cond.selects RJ0 yJ0_length_8abf5 yJ0_length_8abf5) ∈ ea_tbl := ea_inT 567 (by decide +kernel) rfl
theorem wv_J0_charAt_5068e : (Cond.instanceMethod yJ0_charAt_5068e) ∈ ea_tbl := ea_inT 576 (by decide +kernel) rfl
theorem wz_J0_charAt_5068e : (Cond.selects RJ0 yJ0_charAt_5068e yJ0_charAt_5068e) ∈ ea_tbl := ea_inT 577 (by decide +kernel) rfl
theorem wv_J0_coder_7d493 : (Cond.instanceMethod yJ0_coder_7d493) ∈ ea_tbl := ea_inT 570 (by decide +kernel) rfl
theorem wz_J0_coder_7d493 : (Cond.selects RJ0 yJ0_coder_7d493 yJ0_coder_7d493) ∈ ea_tbl := ea_inT 571 (by decide +kernel) rfl
theorem wv_J0_isLatin1_aae02 : (Cond.instanceMethod yJ0_isLatin1_aae02) ∈ ea_tbl := ea_inT 580 (by decide +kernel) rfl
theorem wz_J0_isLatin1_aae02 : (Cond.selects RJ0 yJ0_isLatin1_aae02 yJ0_isLatin1_aae02) ∈ ea_tbl := ea_inT 581 (by decide +kernel) rfl
theorem wf_RJ0_1053 : (Cond.fieldLink RJ0 1053 "jdk/internal/util/Preconditions" "SIOOBE_FORMATTER" "Ljava/util/function/BiFunction;") ∈ ea_tbl := ea_inT 589 (by decide +kernel) rfl
theorem wf_RJ0_38 : (Cond.fieldLink RJ0 38 "java/lang/String" "COMPACT_STRINGS" "Z") ∈ ea_tbl := ea_inT 573 (by decide +kernel) rfl
theorem wf_RJ0_15 : (Cond.fieldLink RJ0 15 "java/lang/String" "coder" "B") ∈ ea_tbl := ea_inT 1685 (by decide +kernel) rfl
theorem wf_RJ0_9 : (Cond.fieldLink RJ0 9 "java/lang/String" "value" "[B") ∈ ea_tbl := ea_inT 1684 (by decide +kernel) rfl
theorem wl_J0_1059 : (Cond.methodLink RJ0 1059 yJ3_checkIndex_8e157) ∈ ea_tbl := ea_inT 591 (by decide +kernel) rfl
theorem wl_J1_9 : (Cond.methodLink RJ1 9 yJ0_checkIndex_df160) ∈ ea_tbl := ea_inT 586 (by decide +kernel) rfl
theorem wl_J0_335 : (Cond.methodLink RJ0 335 yJ0_coder_7d493) ∈ ea_tbl := ea_inT 569 (by decide +kernel) rfl
theorem wl_J0_492 : (Cond.methodLink RJ0 492 yJ0_isLatin1_aae02) ∈ ea_tbl := ea_inT 579 (by decide +kernel) rfl
theorem wl_J0_495 : (Cond.methodLink RJ0 495 yJ1_charAt_3b067) ∈ ea_tbl := ea_inT 583 (by decide +kernel) rfl
theorem wl_X2_74 : (Cond.methodLink RX2 74 yJ0_length_8abf5) ∈ ea_tbl := ea_inT 565 (by decide +kernel) rfl
theorem wl_X2_79 : (Cond.methodLink RX2 79 yJ0_charAt_5068e) ∈ ea_tbl := ea_inT 575 (by decide +kernel) rfl
theorem wl_X11_118 : (Cond.methodLink RX11 118 yJ0_length_8abf5) ∈ ea_tbl := ea_inT 1375 (by decide +kernel) rfl
theorem wl_X11_124 : (Cond.methodLink RX11 124 yJ0_charAt_5068e) ∈ ea_tbl := ea_inT 1376 (by decide +kernel) rfl
theorem dJ0_length_8abf5_0 : decode cJ0_length_8abf5 0 = .ok (.aload_n 0, 1) := by decide +kernel
theorem dJ0_length_8abf5_1 : decode cJ0_length_8abf5 1 = .ok (.getfield 9, 3) := by decide +kernel
theorem dJ0_length_8abf5_4 : decode cJ0_length_8abf5 4 = .ok (.arraylength, 1) := by decide +kernel
theorem dJ0_length_8abf5_5 : decode cJ0_length_8abf5 5 = .ok (.aload_n 0, 1) := by decide +kernel
theorem dJ0_length_8abf5_6 : decode cJ0_length_8abf5 6 = .ok (.invokevirtual 335, 3) := by decide +kernel
theorem dJ0_length_8abf5_9 : decode cJ0_length_8abf5 9 = .ok (.ishr, 1) := by decide +kernel
theorem dJ0_length_8abf5_10 : decode cJ0_length_8abf5 10 = .ok (.ireturn, 1) := by decide +kernel
theorem dJ0_charAt_5068e_0 : decode cJ0_charAt_5068e 0 = .ok (.aload_n 0, 1) := by decide +kernel
theorem dJ0_charAt_5068e_1 : decode cJ0_charAt_5068e 1 = .ok (.invokevirtual 492, 3) := by decide +kernel
theorem dJ0_charAt_5068e_4 : decode cJ0_charAt_5068e 4 = .ok (.ifCond .eq 12, 3) := by decide +kernel
theorem dJ0_charAt_5068e_7 : decode cJ0_charAt_5068e 7 = .ok (.aload_n 0, 1) := by decide +kernel
theorem dJ0_charAt_5068e_8 : decode cJ0_charAt_5068e 8 = .ok (.getfield 9, 3) := by decide +kernel
theorem dJ0_charAt_5068e_11 : decode cJ0_charAt_5068e 11 = .ok (.iload_n 1, 1) := by decide +kernel
theorem dJ0_charAt_5068e_12 : decode cJ0_charAt_5068e 12 = .ok (.invokestatic 495, 3) := by decide +kernel
theorem dJ0_charAt_5068e_15 : decode cJ0_charAt_5068e 15 = .ok (.ireturn, 1) := by decide +kernel
theorem dJ0_charAt_5068e_16 : decode cJ0_charAt_5068e 16 = .ok (.aload_n 0, 1) := by decide +kernel
theorem dJ0_charAt_5068e_17 : decode cJ0_charAt_5068e 17 = .ok (.getfield 9, 3) := by decide +kernel
theorem dJ0_charAt_5068e_20 : decode cJ0_charAt_5068e 20 = .ok (.iload_n 1, 1) := by decide +kernel
theorem dJ0_charAt_5068e_21 : decode cJ0_charAt_5068e 21 = .ok (.invokestatic 498, 3) := by decide +kernel
theorem dJ0_charAt_5068e_24 : decode cJ0_charAt_5068e 24 = .ok (.ireturn, 1) := by decide +kernel
theorem dJ0_coder_7d493_0 : decode cJ0_coder_7d493 0 = .ok (.getstatic 38, 3) := by decide +kernel
theorem dJ0_coder_7d493_3 : decode cJ0_coder_7d493 3 = .ok (.ifCond .eq 10, 3) := by decide +kernel
theorem dJ0_coder_7d493_6 : decode cJ0_coder_7d493 6 = .ok (.aload_n 0, 1) := by decide +kernel
theorem dJ0_coder_7d493_7 : decode cJ0_coder_7d493 7 = .ok (.getfield 15, 3) := by decide +kernel
theorem dJ0_coder_7d493_10 : decode cJ0_coder_7d493 10 = .ok (.goto 4, 3) := by decide +kernel
theorem dJ0_coder_7d493_13 : decode cJ0_coder_7d493 13 = .ok (.iconst 1, 1) := by decide +kernel
theorem dJ0_coder_7d493_14 : decode cJ0_coder_7d493 14 = .ok (.ireturn, 1) := by decide +kernel
theorem dJ0_isLatin1_aae02_0 : decode cJ0_isLatin1_aae02 0 = .ok (.getstatic 38, 3) := by decide +kernel
theorem dJ0_isLatin1_aae02_3 : decode cJ0_isLatin1_aae02 3 = .ok (.ifCond .eq 14, 3) := by decide +kernel
theorem dJ0_isLatin1_aae02_6 : decode cJ0_isLatin1_aae02 6 = .ok (.aload_n 0, 1) := by decide +kernel
theorem dJ0_isLatin1_aae02_7 : decode cJ0_isLatin1_aae02 7 = .ok (.getfield 15, 3) := by decide +kernel
theorem dJ0_isLatin1_aae02_10 : decode cJ0_isLatin1_aae02 10 = .ok (.ifCond .ne 7, 3) := by decide +kernel
theorem dJ0_isLatin1_aae02_13 : decode cJ0_isLatin1_aae02 13 = .ok (.iconst 1, 1) := by decide +kernel
theorem dJ0_isLatin1_aae02_14 : decode cJ0_isLatin1_aae02 14 = .ok (.goto 4, 3) := by decide +kernel
theorem dJ0_isLatin1_aae02_17 : decode cJ0_isLatin1_aae02 17 = .ok (.iconst 0, 1) := by decide +kernel
theorem dJ0_isLatin1_aae02_18 : decode cJ0_isLatin1_aae02 18 = .ok (.ireturn, 1) := by decide +kernel
theorem dJ0_checkIndex_df160_0 : decode cJ0_checkIndex_df160 0 = .ok (.iload_n 0, 1) := by decide +kernel
theorem dJ0_checkIndex_df160_1 : decode cJ0_checkIndex_df160 1 = .ok (.iload_n 1, 1) := by decide +kernel
theorem dJ0_checkIndex_df160_2 : decode cJ0_checkIndex_df160 2 = .ok (.getstatic 1053, 3) := by decide +kernel
theorem dJ0_checkIndex_df160_5 : decode cJ0_checkIndex_df160 5 = .ok (.invokestatic 1059, 3) := by decide +kernel
theorem dJ0_checkIndex_df160_8 : decode cJ0_checkIndex_df160 8 = .ok (.pop, 1) := by decide +kernel
theorem dJ0_checkIndex_df160_9 : decode cJ0_checkIndex_df160 9 = .ok (.return_, 1) := by decide +kernel
theorem dJ1_charAt_3b067_0 : decode cJ1_charAt_3b067 0 = .ok (.iload_n 1, 1) := by decide +kernel
theorem dJ1_charAt_3b067_1 : decode cJ1_charAt_3b067 1 = .ok (.aload_n 0, 1) := by decide +kernel
theorem dJ1_charAt_3b067_2 : decode cJ1_charAt_3b067 2 = .ok (.arraylength, 1) := by decide +kernel
theorem dJ1_charAt_3b067_3 : decode cJ1_charAt_3b067 3 = .ok (.invokestatic 9, 3) := by decide +kernel
theorem dJ1_charAt_3b067_6 : decode cJ1_charAt_3b067 6 = .ok (.aload_n 0, 1) := by decide +kernel
theorem dJ1_charAt_3b067_7 : decode cJ1_charAt_3b067 7 = .ok (.iload_n 1, 1) := by decide +kernel
theorem dJ1_charAt_3b067_8 : decode cJ1_charAt_3b067 8 = .ok (.baload, 1) := by decide +kernel
theorem dJ1_charAt_3b067_9 : decode cJ1_charAt_3b067 9 = .ok (.sipush 255, 3) := by decide +kernel
theorem dJ1_charAt_3b067_12 : decode cJ1_charAt_3b067 12 = .ok (.iand, 1) := by decide +kernel
theorem dJ1_charAt_3b067_13 : decode cJ1_charAt_3b067 13 = .ok (.i2c, 1) := by decide +kernel
theorem dJ1_charAt_3b067_14 : decode cJ1_charAt_3b067 14 = .ok (.ireturn, 1) := by decide +kernel
theorem dJ3_checkIndex_8e157_0 : decode cJ3_checkIndex_8e157 0 = .ok (.iload_n 0, 1) := by decide +kernel
theorem dJ3_checkIndex_8e157_1 : decode cJ3_checkIndex_8e157 1 = .ok (.ifCond .lt 8, 3) := by decide +kernel
theorem dJ3_checkIndex_8e157_4 : decode cJ3_checkIndex_8e157 4 = .ok (.iload_n 0, 1) := by decide +kernel
theorem dJ3_checkIndex_8e157_5 : decode cJ3_checkIndex_8e157 5 = .ok (.iload_n 1, 1) := by decide +kernel
theorem dJ3_checkIndex_8e157_6 : decode cJ3_checkIndex_8e157 6 = .ok (.if_icmp .lt 10, 3) := by decide +kernel
theorem dJ3_checkIndex_8e157_9 : decode cJ3_checkIndex_8e157 9 = .ok (.aload_n 2, 1) := by decide +kernel
theorem dJ3_checkIndex_8e157_10 : decode cJ3_checkIndex_8e157 10 = .ok (.iload_n 0, 1) := by decide +kernel
theorem dJ3_checkIndex_8e157_11 : decode cJ3_checkIndex_8e157 11 = .ok (.iload_n 1, 1) := by decide +kernel
theorem dJ3_checkIndex_8e157_12 : decode cJ3_checkIndex_8e157 12 = .ok (.invokestatic 95, 3) := by decide +kernel
theorem dJ3_checkIndex_8e157_15 : decode cJ3_checkIndex_8e157 15 = .ok (.athrow, 1) := by decide +kernel
theorem dJ3_checkIndex_8e157_16 : decode cJ3_checkIndex_8e157 16 = .ok (.iload_n 0, 1) := by decide +kernel
theorem dJ3_checkIndex_8e157_17 : decode cJ3_checkIndex_8e157 17 = .ok (.ireturn, 1) := by decide +kernel
def ea_tlen (i : Nat) : Int32 := nI (ea_sl.getD i 0)
def ea_tch (i : Nat) (x : Int32) : Int32 := ((((ea_sb.getD i []).getD x.toNatClampNeg 0) &&& 255).toUInt32 % 65536).toInt32
def ea_tck (i : Nat) (x : Int32) : Bool := decide (0 ≤ x) && decide (x < ea_tlen i)
theorem ea_tck_s {i : Nat} {x : Int32} (h : ea_tck i x = true) : 0 ≤ x ∧ x < ea_tlen i := by
  simpa only [ea_tck, Bool.and_eq_true, decide_eq_true_eq] using h
theorem ea_w.z5 {E : eE} {ids : List Nat} {M : eM} {s : State} {H : Heap} {locs : List Loc} (hw : ea_w E ids M s H locs) : va_Z RJ0 "COMPACT_STRINGS" "Z" (.int 1) (ea_Ad E ids) s s.heap := hw.2.2.2.2.2.2.2.2.2.1.1
theorem ea_w.z6 {E : eE} {ids : List Nat} {M : eM} {s : State} {H : Heap} {locs : List Loc} (hw : ea_w E ids M s H locs) : va_Zq RJ3 "SIOOBE_FORMATTER" "Ljava/util/function/BiFunction;" (ea_Ad E ids) s s.heap := hw.2.2.2.2.2.2.2.2.2.1.2
theorem ea_w.vs {E : eE} {ids : List Nat} {M : eM} {s : State} {H : Heap} {locs : List Loc} (hw : ea_w E ids M s H locs) : vk_S 11 ea_sl ea_sb (fun i => E.2.2.2 (10 + i)) (fun i => E.2.2.2 (30 + i)) (ea_Ad E ids) s s.heap := hw.2.2.2.2.2.2.2.2.2.2.1
theorem ea_sl_lt : ∀ i, ea_sl.getD i 0 < 2 ^ 31 := by
  intro i
  rcases Nat.lt_or_ge i 11 with h | h
  · exact (by decide +kernel : ∀ i, i < 11 → ea_sl.getD i 0 < 2 ^ 31) i h
  · rw [List.getD_eq_getElem?_getD, List.getElem?_eq_none (show ea_sl.length ≤ i from h)]
    decide
theorem ea_tck_in {i : Nat} {x : Int32} (h : ea_tck i x = true) : vp_in x (ea_sl.getD i 0) := by
  obtain ⟨h1, h2⟩ := ea_tck_s h
  rw [vp_in_iff]
  have h3 := Int32.le_iff_toInt_le.mp h1
  have h4 := Int32.lt_iff_toInt_lt.mp h2
  rw [ea_tlen, nI_toInt (ea_sl_lt i)] at h4
  exact ⟨by simpa using h3, h4⟩
section EAJ
variable {l : Launch} {E : eE} {ids : List Nat} {M : eM}
theorem mJ3n {x0 x1 : Int32} (h0 : 0 ≤ x0) (h1 : x0 < x1) : ea_Mi l yJ3_checkIndex_8e157 cJ3_checkIndex_8e157 3 (some .int) 0 0 E ids [.int x0, .int x1, .null] M (x0, M) := by
  refine ea_goi (by decide) (Nat.le_of_ble_eq_true rfl) wc_J3_checkIndex_8e157 ?_
  intro p e s m below meth cd ls C hw hl
  have hl : lv_has ls 3 [(0, .int x0), (1, .int x1)] := lv_sub hl [0, 1] rfl
  refine lv_iload_n C.1 C.2.1 dJ3_checkIndex_8e157_0 rfl (lv_at hl 0 rfl) ?_
  refine lv_if_lt (tgt := 9) C.1 C.2.1 dJ3_checkIndex_8e157_1 (by decide) (fun q => absurd h0 (Int32.not_le.mpr q)) (fun _ => ?_)
  refine lv_iload_n C.1 C.2.1 dJ3_checkIndex_8e157_4 rfl (lv_at hl 0 rfl) ?_
  refine lv_iload_n C.1 C.2.1 dJ3_checkIndex_8e157_5 rfl (lv_at hl 1 rfl) ?_
  refine lv_icmp_lt (tgt := 16) C.1 C.2.1 dJ3_checkIndex_8e157_6 (by decide) (fun _ => ?_) (fun q => absurd h1 q)
  refine lv_iload_n C.1 C.2.1 dJ3_checkIndex_8e157_16 rfl (lv_at hl 0 rfl) ?_
  exact ea_iret C hw rfl dJ3_checkIndex_8e157_17
theorem mJ3r {x0 x1 : Int32} {t : Nat} (h0 : 0 ≤ x0) (h1 : x0 < x1) : ea_Mi l yJ3_checkIndex_8e157 cJ3_checkIndex_8e157 3 (some .int) 0 0 E ids [.int x0, .int x1, .ref t] M (x0, M) := by
  refine ea_goi (by decide) (Nat.le_of_ble_eq_true rfl) wc_J3_checkIndex_8e157 ?_
  intro p e s m below meth cd ls C hw hl
  have hl : lv_has ls 3 [(0, .int x0), (1, .int x1)] := lv_sub hl [0, 1] rfl
  refine lv_iload_n C.1 C.2.1 dJ3_checkIndex_8e157_0 rfl (lv_at hl 0 rfl) ?_
  refine lv_if_lt (tgt := 9) C.1 C.2.1 dJ3_checkIndex_8e157_1 (by decide) (fun q => absurd h0 (Int32.not_le.mpr q)) (fun _ => ?_)
  refine lv_iload_n C.1 C.2.1 dJ3_checkIndex_8e157_4 rfl (lv_at hl 0 rfl) ?_
  refine lv_iload_n C.1 C.2.1 dJ3_checkIndex_8e157_5 rfl (lv_at hl 1 rfl) ?_
  refine lv_icmp_lt (tgt := 16) C.1 C.2.1 dJ3_checkIndex_8e157_6 (by decide) (fun _ => ?_) (fun q => absurd h1 q)
  refine lv_iload_n C.1 C.2.1 dJ3_checkIndex_8e157_16 rfl (lv_at hl 0 rfl) ?_
  exact ea_iret C hw rfl dJ3_checkIndex_8e157_17
theorem mJ0c {x0 x1 : Int32} (h0 : 0 ≤ x0) (h1 : x0 < x1) : ea_Mv l yJ0_checkIndex_df160 cJ0_checkIndex_df160 2 1 22 E ids [.int x0, .int x1] M M := by
  refine ea_gov (by decide) (Nat.le_of_ble_eq_true rfl) wc_J0_checkIndex_df160 ?_
  intro p e s m below meth cd ls C hw hl
  have hl : lv_has ls 2 [(0, .int x0), (1, .int x1)] := hl
  refine lv_iload_n C.1 C.2.1 dJ0_checkIndex_df160_0 rfl (lv_at hl 0 rfl) ?_
  refine lv_iload_n C.1 C.2.1 dJ0_checkIndex_df160_1 rfl (lv_at hl 1 rfl) ?_
  rcases hw.z6 with z | ⟨t, z⟩
  · refine va_gets C.1 C.2.1 z hw.2.2.2.1 C.2.2.2.1 (C.2.2.2.2.1 _ wf_RJ0_1053) (fun _ h => h) dJ0_checkIndex_df160_2 ?_
    refine ea_runi2 hw (ea_runS (n := 3) C hw (As := [.int x0, .int x1, .null]) (rest := []) (mJ3n h0 h1) wc_J3_checkIndex_8e157 wi_RJ3 wl_J0_1059 wt_J3_checkIndex_8e157 (by decide +kernel) (by decide) rfl hl.1 rfl (Nat.le_of_ble_eq_true rfl) dJ0_checkIndex_df160_5 ⟨Nat.le_refl _, Nat.le_refl _⟩) (fun H locs hw => ?_)
    refine lv_pop C.1 C.2.1 dJ0_checkIndex_df160_8 rfl ?_
    exact ea_vret C hw rfl dJ0_checkIndex_df160_9
  · refine va_gets C.1 C.2.1 z hw.2.2.2.1 C.2.2.2.1 (C.2.2.2.2.1 _ wf_RJ0_1053) (fun _ h => h) dJ0_checkIndex_df160_2 ?_
    refine ea_runi2 hw (ea_runS (n := 3) C hw (As := [.int x0, .int x1, .ref t]) (rest := []) (mJ3r h0 h1) wc_J3_checkIndex_8e157 wi_RJ3 wl_J0_1059 wt_J3_checkIndex_8e157 (by decide +kernel) (by decide) rfl hl.1 rfl (Nat.le_of_ble_eq_true rfl) dJ0_checkIndex_df160_5 ⟨Nat.le_refl _, Nat.le_refl _⟩) (fun H locs hw => ?_)
    refine lv_pop C.1 C.2.1 dJ0_checkIndex_df160_8 rfl ?_
    exact ea_vret C hw rfl dJ0_checkIndex_df160_9
theorem mJ1ch {i : Nat} {x1 : Int32} (hi : i < 11) (h : ea_tck i x1 = true) : ea_Mi l yJ1_charAt_3b067 cJ1_charAt_3b067 2 (some .char) 2 43 E ids [.ref (E.2.2.2 (30 + i)), .int x1] M (ea_tch i x1, M) := by
  refine ea_goi (by decide) (Nat.le_of_ble_eq_true rfl) wc_J1_charAt_3b067 ?_
  intro p e s m below meth cd ls C hw hl
  have hl : lv_has ls 2 [(0, .ref (E.2.2.2 (30 + i))), (1, .int x1)] := hl
  obtain ⟨h0, h1⟩ := ea_tck_s h
  have hT := (hw.vs.1 i hi).2.2.2
  refine lv_iload_n C.1 C.2.1 dJ1_charAt_3b067_0 rfl (lv_at hl 1 rfl) ?_
  refine lv_aload_n C.1 C.2.1 dJ1_charAt_3b067_1 rfl (lv_at hl 0 rfl) ?_
  refine va_tlen C.1 C.2.1 hT hw.2.2.2.1 (v := ea_tlen i) rfl dJ1_charAt_3b067_2 ?_
  refine ea_runv hw (ea_runS (n := 2) C hw (As := [.int x1, .int (ea_tlen i)]) (rest := []) (mJ0c h0 h1) wc_J0_checkIndex_df160 wi_RJ0 wl_J1_9 wt_J0_checkIndex_df160 (by decide +kernel) (by decide) rfl hl.1 rfl (Nat.le_of_ble_eq_true rfl) dJ1_charAt_3b067_3 ⟨Nat.le_refl _, Nat.le_refl _⟩) (fun H locs hw => ?_)
  refine lv_aload_n C.1 C.2.1 dJ1_charAt_3b067_6 rfl (lv_at hl 0 rfl) ?_
  refine lv_iload_n C.1 C.2.1 dJ1_charAt_3b067_7 rfl (lv_at hl 1 rfl) ?_
  refine va_tb C.1 C.2.1 hT hw.2.2.2.1 (ea_tck_in h) rfl dJ1_charAt_3b067_8 ?_
  refine lv_sipush (v := 255) C.1 C.2.1 dJ1_charAt_3b067_9 (by decide) ?_
  refine lv_iand C.1 C.2.1 dJ1_charAt_3b067_12 ?_
  refine lv_i2c C.1 C.2.1 dJ1_charAt_3b067_13 rfl ?_
  obtain ⟨hx, hb, -, -, -, hr, hlk⟩ := C
  exact W.zret hx hb hr (pk_nc _) (fun t ht hW => ⟨⟨_, M, rfl, ⟨rfl, rfl⟩, hw.P ht hW⟩, hw.2.2.2.1.F ht⟩) hw.2.2.2.1.2.2 dJ1_charAt_3b067_14 hlk
theorem mJ0co {i : Nat} (hi : i < 11) : ea_Mi l yJ0_coder_7d493 cJ0_coder_7d493 1 (some .byte) 0 0 E ids [.ref (E.2.2.2 (10 + i))] M (0, M) := by
  refine ea_goi (by decide) (Nat.le_of_ble_eq_true rfl) wc_J0_coder_7d493 ?_
  intro p e s m below meth cd ls C hw hl
  have hl : lv_has ls 1 [(0, .ref (E.2.2.2 (10 + i)))] := hl
  refine va_gets C.1 C.2.1 hw.z5 hw.2.2.2.1 C.2.2.2.1 (C.2.2.2.2.1 _ wf_RJ0_38) (fun _ h => h) dJ0_coder_7d493_0 ?_
  refine lv_if_eq (tgt := 13) C.1 C.2.1 dJ0_coder_7d493_3 (by decide) (fun q => absurd q (by decide)) (fun _ => ?_)
  refine lv_aload_n C.1 C.2.1 dJ0_coder_7d493_6 rfl (lv_at hl 0 rfl) ?_
  refine vk_getf C.1 C.2.1 (hw.vs.1 i hi).2.1 hw.2.2.2.1 C.2.2.2.1 (C.2.2.2.2.1 _ wf_RJ0_15) (fun _ h => h) dJ0_coder_7d493_7 ?_
  refine lv_goto (tgt := 14) C.1 C.2.1 dJ0_coder_7d493_10 (by decide) ?_
  obtain ⟨hx, hb, -, -, -, hr, hlk⟩ := C
  exact W.zret hx hb hr (by decide) (fun t ht hW => ⟨⟨_, M, rfl, ⟨rfl, rfl⟩, hw.P ht hW⟩, hw.2.2.2.1.F ht⟩) hw.2.2.2.1.2.2 dJ0_coder_7d493_14 hlk
theorem mJ0la {i : Nat} (hi : i < 11) : ea_Mi l yJ0_isLatin1_aae02 cJ0_isLatin1_aae02 1 (some .boolean) 0 0 E ids [.ref (E.2.2.2 (10 + i))] M (1, M) := by
  refine ea_goi (by decide) (Nat.le_of_ble_eq_true rfl) wc_J0_isLatin1_aae02 ?_
  intro p e s m below meth cd ls C hw hl
  have hl : lv_has ls 1 [(0, .ref (E.2.2.2 (10 + i)))] := hl
  refine va_gets C.1 C.2.1 hw.z5 hw.2.2.2.1 C.2.2.2.1 (C.2.2.2.2.1 _ wf_RJ0_38) (fun _ h => h) dJ0_isLatin1_aae02_0 ?_
  refine lv_if_eq (tgt := 17) C.1 C.2.1 dJ0_isLatin1_aae02_3 (by decide) (fun q => absurd q (by decide)) (fun _ => ?_)
  refine lv_aload_n C.1 C.2.1 dJ0_isLatin1_aae02_6 rfl (lv_at hl 0 rfl) ?_
  refine vk_getf C.1 C.2.1 (hw.vs.1 i hi).2.1 hw.2.2.2.1 C.2.2.2.1 (C.2.2.2.2.1 _ wf_RJ0_15) (fun _ h => h) dJ0_isLatin1_aae02_7 ?_
  refine lv_if_ne (tgt := 17) C.1 C.2.1 dJ0_isLatin1_aae02_10 (by decide) (fun q => absurd rfl q) (fun _ => ?_)
  refine lv_iconst (v := 1) C.1 C.2.1 dJ0_isLatin1_aae02_13 (by decide) ?_
  refine lv_goto (tgt := 18) C.1 C.2.1 dJ0_isLatin1_aae02_14 (by decide) ?_
  exact ea_zret C hw (by decide) rfl dJ0_isLatin1_aae02_18
theorem ea_sh0 (x : Int32) : x >>> ((0 : Int32) &&& 31) = x := by
  have e : ((0 : Int32) &&& 31) = 0 := by decide
  rw [e]
  exact Int32.toBitVec_inj.mp (by simp)
section EAK
variable {p : Program} {e : Env} {R : Room} {s : State} {m : MethodId} {args : Array Value} {below : List Frame} {meth : Method} {c : Code} {H : Heap} {locs : List Loc} {cells slots : Nat} {Q : State → Prop} {cc : ByteArray} {nL pc : Nat} {ret : Option FieldType} {own : String} {ls : Array Slot} {rest : List Value} {y : MethodName} {bytes : ByteArray} {nL2 rf rl index n : Nat} {ret2 : Option FieldType} {As st0 : List Value}
/-- a text's own method -/
theorem ea_runT {i : Nat} {Qc : Array Value → State → Outcome → State → Prop} (C : ea_C p s m args meth c cc nL ret own) (hw : ea_w E ids M s H locs) (hi : i < 11)
    (hM : Met l y (.code y bytes nL2 ret2 :: ea_tbl) (ea_rm rf rl) (va_Pc (.ref (E.2.2.2 (10 + i)) :: As) (ea_P E ids M)) Qc 0 0 (ea_Ad E ids))
    (hcode : Cond.code y bytes nL2 ret2 ∈ ea_tbl) (hini : Cond.initialized y.cls ∈ ea_tbl) (hlink : Cond.methodLink own index y ∈ ea_tbl) (hinst : Cond.instanceMethod y ∈ ea_tbl) (hsel : Cond.selects "java/lang/String" y y ∈ ea_tbl) (hd : ea_cd y n = true)
    (hR : rf + 1 ≤ R.frames ∧ 8 + (nL2 + 11) + rl ≤ R.locals) (hn : As.length = n) (hls : ls.size = nL) (hst : st0 = As.reverse ++ .ref (E.2.2.2 (10 + i)) :: rest) (hrest : (rest.map fun v => v.category).sum ≤ 8) (hdg : decode cc pc = .ok (.invokevirtual index, 3)) (hf : cells ≤ R.cells ∧ slots ≤ R.slots) :
    va_Run p l e R s m args below meth c H locs cells slots 0 0 (F0 m pc ls st0) rest (Qc (Value.ref (E.2.2.2 (10 + i)) :: As).toArray) (ea_Ad E ids) := by
  have hp := ea_pre (As := .ref (E.2.2.2 (10 + i)) :: As) hw
  exact va_runV (Ts := ea_tbl) ⟨C.1, C.2.1, C.2.2.1, C.2.2.2.1, C.2.2.2.2.1⟩ hM ⟨ea_cB C hcode hini hlink hd hR, C.2.2.2.2.1 _ hinst, C.2.2.2.2.1 _ hsel⟩ ⟨hp.1, vk_recv (i := i) hw.vs hi hw.2.2.2.1, hp.2⟩ rfl hn hls hst (lv_room hrest) hdg hf
end EAK
theorem mJ0len {i : Nat} (hi : i < 11) : ea_Mi l yJ0_length_8abf5 cJ0_length_8abf5 1 (some .int) 1 20 E ids [.ref (E.2.2.2 (10 + i))] M (ea_tlen i, M) := by
  refine ea_goi (by decide) (Nat.le_of_ble_eq_true rfl) wc_J0_length_8abf5 ?_
  intro p e s m below meth cd ls C hw hl
  have hl : lv_has ls 1 [(0, .ref (E.2.2.2 (10 + i)))] := hl
  refine lv_aload_n C.1 C.2.1 dJ0_length_8abf5_0 rfl (lv_at hl 0 rfl) ?_
  refine vk_getf C.1 C.2.1 (hw.vs.1 i hi).2.2.1 hw.2.2.2.1 C.2.2.2.1 (C.2.2.2.2.1 _ wf_RJ0_9) (fun _ h => h) dJ0_length_8abf5_1 ?_
  refine va_tlen C.1 C.2.1 (hw.vs.1 i hi).2.2.2 hw.2.2.2.1 (v := ea_tlen i) rfl dJ0_length_8abf5_4 ?_
  refine lv_aload_n C.1 C.2.1 dJ0_length_8abf5_5 rfl (lv_at hl 0 rfl) ?_
  refine ea_runi2 hw (ea_runT (n := 0) C hw hi (As := []) (rest := [.int (ea_tlen i)]) (mJ0co hi) wc_J0_coder_7d493 wi_RJ0 wl_J0_335 wv_J0_coder_7d493 wz_J0_coder_7d493 (by decide +kernel) (by decide) rfl hl.1 rfl (Nat.le_of_ble_eq_true rfl) dJ0_length_8abf5_6 ⟨Nat.le_refl _, Nat.le_refl _⟩) (fun H locs hw => ?_)
  refine lv_ishr C.1 C.2.1 dJ0_length_8abf5_9 ?_
  refine ea_topi (ea_sh0 _) ?_
  exact ea_iret C hw rfl dJ0_length_8abf5_10
theorem mJ0ch {i : Nat} {x1 : Int32} (hi : i < 11) (h : ea_tck i x1 = true) : ea_Mi l yJ0_charAt_5068e cJ0_charAt_5068e 2 (some .char) 3 64 E ids [.ref (E.2.2.2 (10 + i)), .int x1] M (ea_tch i x1, M) := by
  refine ea_goi (by decide) (Nat.le_of_ble_eq_true rfl) wc_J0_charAt_5068e ?_
  intro p e s m below meth cd ls C hw hl
  have hl : lv_has ls 2 [(0, .ref (E.2.2.2 (10 + i))), (1, .int x1)] := hl
  refine lv_aload_n C.1 C.2.1 dJ0_charAt_5068e_0 rfl (lv_at hl 0 rfl) ?_
  refine ea_runi2 hw (ea_runT (n := 0) C hw hi (As := []) (rest := []) (mJ0la hi) wc_J0_isLatin1_aae02 wi_RJ0 wl_J0_492 wv_J0_isLatin1_aae02 wz_J0_isLatin1_aae02 (by decide +kernel) (by decide) rfl hl.1 rfl (Nat.le_of_ble_eq_true rfl) dJ0_charAt_5068e_1 ⟨Nat.le_refl _, Nat.le_refl _⟩) (fun H locs hw => ?_)
  refine lv_if_eq (tgt := 16) C.1 C.2.1 dJ0_charAt_5068e_4 (by decide) (fun q => absurd q (by decide)) (fun _ => ?_)
  refine lv_aload_n C.1 C.2.1 dJ0_charAt_5068e_7 rfl (lv_at hl 0 rfl) ?_
  refine vk_getf C.1 C.2.1 (hw.vs.1 i hi).2.2.1 hw.2.2.2.1 C.2.2.2.1 (C.2.2.2.2.1 _ wf_RJ0_9) (fun _ h => h) dJ0_charAt_5068e_8 ?_
  refine lv_iload_n C.1 C.2.1 dJ0_charAt_5068e_11 rfl (lv_at hl 1 rfl) ?_
  refine ea_runi2 hw (ea_runS (n := 2) C hw (As := [.ref (E.2.2.2 (30 + i)), .int x1]) (rest := []) (mJ1ch hi h) wc_J1_charAt_3b067 wi_RJ1 wl_J0_495 wt_J1_charAt_3b067 (by decide +kernel) (by decide) rfl hl.1 rfl (Nat.le_of_ble_eq_true rfl) dJ0_charAt_5068e_12 ⟨Nat.le_refl _, Nat.le_refl _⟩) (fun H locs hw => ?_)
  obtain ⟨hx, hb, -, -, -, hr, hlk⟩ := C
  exact W.zret hx hb hr (pk_nc _) (fun t ht hW => ⟨⟨_, M, rfl, ⟨rfl, rfl⟩, hw.P ht hW⟩, hw.2.2.2.1.F ht⟩) hw.2.2.2.1.2.2 dJ0_charAt_5068e_15 hlk
end EAJ
