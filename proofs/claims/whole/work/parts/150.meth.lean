def fX2_says_28 (a1 : Nat) : Nat → Int32 → eM → Option (Int32 × eM)
  | 0, _, _ => none
  | n + 1, x2, M => if (ea_tlen a1) ≤ x2 then (some ((1 : Int32), M)) else (ea_ck (ea_ix ((M.1 3 7) + x2) (ea_len 2)) (ea_ck (ea_tck a1 x2) (if (M.1 2 ((M.1 3 7) + x2).toNatClampNeg) = (ea_tch a1 x2) then (fX2_says_28 a1 n (x2 + (1 : Int32)) M) else (some ((0 : Int32), M)))))
def fX2_says_0 (a1 : Nat) (M : eM) : Option (Int32 × eM) := if (M.1 3 6) = (1 : Int32) then (if ((M.1 3 4) - (M.1 3 7)) = (ea_tlen a1) then (fX2_says_28 a1 ea_N (0 : Int32) M) else (some ((0 : Int32), M))) else (some ((0 : Int32), M))
def fX2_says (a1 : Nat) (M : eM) : Option (Int32 × eM) := fX2_says_0 a1 M
section SX2_says
variable {p : Program} {l : Launch} {e : Env} {s : State} {m : MethodId} {args : Array Value} {below : List Frame} {meth : Method} {cd : Code} {E : eE} {ids : List Nat} {res : Int32 × eM} {a1 : Nat}
set_option maxHeartbeats 4000000 in
set_option maxRecDepth 20000 in
theorem wX2_says_28 (C : ea_C p s m args meth cd cX2_says 3 (some .boolean) RX2) (hX : ea_X ids) (ho1 : a1 < 11) : ∀ (n : Nat) (x2 : Int32) (M : eM) (H : Heap) (locs : List Loc) (ls : Array Slot), fX2_says_28 a1 n x2 M = some res → ea_w E ids M s H locs → lv_has ls 3 [(0, .ref (E.1 3)), (1, .ref (E.2.2.2 (10 + a1))), (2, .int x2)] → W p l e (ea_rm 4 85) s m args below meth cd H locs 0 0 (MQ below (ea_Qi E ids res) args s 0 0 (ea_Ad E ids)) (F0 m 28 ls []) := by
  intro n
  induction n with
  | zero => intro x2 M H locs ls hf; cases hf
  | succ n ih =>
    intro x2 M H locs ls hf  hw hl
    replace hf := (fX2_says_28.eq_2 ..).symm.trans hf
    refine lv_iload_n C.1 C.2.1 dX2_says_28 rfl (lv_at hl 2 rfl) ?_
    refine lv_aload_n C.1 C.2.1 dX2_says_29 rfl (lv_at hl 1 rfl) ?_
    refine ea_runi2 hw (ea_runT (n := 0) C hw (i := a1) ho1 (As := []) (rest := [.int x2]) (mJ0len (i := a1) ho1) wc_J0_length_8abf5 wi_RJ0 wl_X2_74 wv_J0_length_8abf5 wz_J0_length_8abf5 (by decide +kernel) (by decide) rfl hl.1 rfl (Nat.le_of_ble_eq_true rfl) dX2_says_30 ⟨Nat.le_refl _, Nat.le_refl _⟩) (fun H locs hw => ?_)
    refine lv_icmp_ge (tgt := 66) C.1 C.2.1 dX2_says_33 (by decide) (fun hc1 => ?_) (fun hc1 => ?_)
    · replace hf := ea_if_t hc1 hf
      refine lv_iconst (v := 1) C.1 C.2.1 dX2_says_66 (by decide) ?_
      exact ea_zret C hw (by decide) hf dX2_says_67
    · replace hf := ea_if_f hc1 hf
      refine lv_aload_n C.1 C.2.1 dX2_says_36 rfl (lv_at hl 0 rfl) ?_
      refine gf_X2_18 C hw (hX 3 2 rfl) dX2_says_37 ?_
      refine gf_X2_46 C hw (hX 1 7 rfl) dX2_says_40 ?_
      refine W.eq (g2 := F0 m 43 ls [.ref (E.1 2)]) rfl ?_
      refine lv_aload_n C.1 C.2.1 dX2_says_43 rfl (lv_at hl 0 rfl) ?_
      refine gf_X2_43 C hw (hX 3 2 rfl) dX2_says_44 ?_
      refine lv_iload_n C.1 C.2.1 dX2_says_47 rfl (lv_at hl 2 rfl) ?_
      refine lv_iadd C.1 C.2.1 dX2_says_48 ?_
      obtain ⟨hc2, hf⟩ := ea_ck_s hf
      refine ea_bald C hw (show ea_ok ids 2 22 from ok_7_0 (hX 1 7 rfl)) hc2 dX2_says_49 ?_
      refine lv_aload_n C.1 C.2.1 dX2_says_50 rfl (lv_at hl 1 rfl) ?_
      refine lv_iload_n C.1 C.2.1 dX2_says_51 rfl (lv_at hl 2 rfl) ?_
      obtain ⟨hc3, hf⟩ := ea_ck_s hf
      refine ea_runi2 hw (ea_runT (n := 1) C hw (i := a1) ho1 (As := [.int x2]) (rest := [.int (M.1 2 ((M.1 3 7) + x2).toNatClampNeg)]) (mJ0ch (i := a1) ho1 hc3) wc_J0_charAt_5068e wi_RJ0 wl_X2_79 wv_J0_charAt_5068e wz_J0_charAt_5068e (by decide +kernel) (by decide) rfl hl.1 rfl (Nat.le_of_ble_eq_true rfl) dX2_says_52 ⟨Nat.le_refl _, Nat.le_refl _⟩) (fun H locs hw => ?_)
      refine lv_icmp_eq (tgt := 60) C.1 C.2.1 dX2_says_55 (by decide) (fun hc4 => ?_) (fun hc4 => ?_)
      · replace hf := ea_if_t hc4 hf
        refine lv_iinc (v := x2 + (1 : Int32)) (lv' := [(2, .int (x2 + (1 : Int32))), (0, .ref (E.1 3)), (1, .ref (E.2.2.2 (10 + a1)))]) C.1 C.2.1 dX2_says_60 hl (k := 2) rfl rfl (by decide) rfl (fun ls hl => ?_)
        refine lv_goto (tgt := 28) C.1 C.2.1 dX2_says_63 (by decide) ?_
        exact ih _ _ _ _ _ hf hw (lv_sub hl [1, 2, 0] rfl)
      · replace hf := ea_if_f hc4 hf
        refine lv_iconst (v := 0) C.1 C.2.1 dX2_says_58 (by decide) ?_
        exact ea_zret C hw (by decide) hf dX2_says_59
set_option maxHeartbeats 4000000 in
set_option maxRecDepth 20000 in
theorem wX2_says_0 (C : ea_C p s m args meth cd cX2_says 3 (some .boolean) RX2) (hX : ea_X ids) (ho1 : a1 < 11) : ∀  (M : eM) (H : Heap) (locs : List Loc) (ls : Array Slot), fX2_says_0 a1 M = some res → ea_w E ids M s H locs → lv_has ls 3 [(0, .ref (E.1 3)), (1, .ref (E.2.2.2 (10 + a1)))] → W p l e (ea_rm 4 85) s m args below meth cd H locs 0 0 (MQ below (ea_Qi E ids res) args s 0 0 (ea_Ad E ids)) (F0 m 0 ls []) := by
  intro M H locs ls hf  hw hl
  replace hf := (fX2_says_0.eq_1 ..).symm.trans hf
  refine lv_aload_n C.1 C.2.1 dX2_says_0 rfl (lv_at hl 0 rfl) ?_
  refine gf_X2_40 C hw (hX 3 2 rfl) dX2_says_1 ?_
  refine lv_iconst (v := 1) C.1 C.2.1 dX2_says_4 (by decide) ?_
  refine lv_icmp_ne (tgt := 24) C.1 C.2.1 dX2_says_5 (by decide) (fun hc1 => ?_) (fun hc1 => ?_)
  · replace hf := ea_if_f hc1 hf
    refine lv_iconst (v := 0) C.1 C.2.1 dX2_says_24 (by decide) ?_
    exact ea_zret C hw (by decide) hf dX2_says_25
  · replace hf := ea_if_t hc1 hf
    refine lv_aload_n C.1 C.2.1 dX2_says_8 rfl (lv_at hl 0 rfl) ?_
    refine gf_X2_31 C hw (hX 3 2 rfl) dX2_says_9 ?_
    refine lv_aload_n C.1 C.2.1 dX2_says_12 rfl (lv_at hl 0 rfl) ?_
    refine gf_X2_43 C hw (hX 3 2 rfl) dX2_says_13 ?_
    refine lv_isub C.1 C.2.1 dX2_says_16 ?_
    refine lv_aload_n C.1 C.2.1 dX2_says_17 rfl (lv_at hl 1 rfl) ?_
    refine ea_runi2 hw (ea_runT (n := 0) C hw (i := a1) ho1 (As := []) (rest := [.int ((M.1 3 4) - (M.1 3 7))]) (mJ0len (i := a1) ho1) wc_J0_length_8abf5 wi_RJ0 wl_X2_74 wv_J0_length_8abf5 wz_J0_length_8abf5 (by decide +kernel) (by decide) rfl hl.1 rfl (Nat.le_of_ble_eq_true rfl) dX2_says_18 ⟨Nat.le_refl _, Nat.le_refl _⟩) (fun H locs hw => ?_)
    refine lv_icmp_eq (tgt := 26) C.1 C.2.1 dX2_says_21 (by decide) (fun hc2 => ?_) (fun hc2 => ?_)
    · replace hf := ea_if_t hc2 hf
      refine lv_iconst (v := 0) C.1 C.2.1 dX2_says_26 (by decide) ?_
      refine lv_istore_n (lv' := [(2, .int (0 : Int32)), (0, .ref (E.1 3)), (1, .ref (E.2.2.2 (10 + a1)))]) C.1 C.2.1 dX2_says_27 rfl hl (by decide) rfl (fun ls hl => ?_)
      exact wX2_says_28 C hX ho1 ea_N _ _ _ _ _ hf hw (lv_sub hl [1, 2, 0] rfl)
    · replace hf := ea_if_f hc2 hf
      refine lv_iconst (v := 0) C.1 C.2.1 dX2_says_24 (by decide) ?_
      exact ea_zret C hw (by decide) hf dX2_says_25
set_option maxHeartbeats 4000000 in
set_option maxRecDepth 20000 in
theorem mX2_says {l : Launch} {E : eE} {ids : List Nat} (hX : ea_X ids) {a1 : Nat} (ho1 : a1 < 11) {M : eM} {res : Int32 × eM} (hf : fX2_says a1 M = some res) : ea_Mi l yX2_says cX2_says 3 (some .boolean) 4 85 E ids [.ref (E.1 3), .ref (E.2.2.2 (10 + a1))] M res := by
  refine ea_goi (by decide) (Nat.le_of_ble_eq_true rfl) wc_X2_says ?_
  intro p e s m below meth cd ls C hw hl
  exact wX2_says_0 C hX ho1  _ _ _ _ hf hw hl
end SX2_says

def fX2_readEye_42 (k60 : eM → Option (Int32 × eM)) (k104 : eM → Option (Int32 × eM)) : Nat → Int32 → eM → Option (Int32 × eM)
  | 0, _, _ => none
  | n + 1, x1, M => if (3 : Int32) ≤ x1 then (k104 M) else (ea_cv (fX2_advance M) (fun M3 => ea_ci (fX2_says 7 M3) (fun r5 M6 => if r5 = 0 then (k60 M6) else (ea_ck (ea_is (M6.2.2 3 3) 1) (ea_ck (ea_is (M6.2.2 3 3) 1) (ea_ci (fX2_readRow (M6.2.2 3 3 + 9) (((M6.1 (M6.2.2 3 3) 15) * (9 : Int32)) + (x1 * (3 : Int32))) (9 : Int32) M6) (fun r11 M12 => if r11 = 0 then (some ((0 : Int32), M12)) else (fX2_readEye_42 k60 k104 n (x1 + (1 : Int32)) M12))))))))
def fX2_readEye_60 (M : eM) : Option (Int32 × eM) := ea_ci (fX2_refuse (1 : Int32) M) (fun r2 M3 => ea_ck (ea_01 r2) (some (r2, M3)))
def fX2_readEye_104 (M : eM) : Option (Int32 × eM) := ea_ck (ea_is (M.2.2 3 3) 1) (some ((1 : Int32), ea_pI M (M.2.2 3 3) 15 ((M.1 (M.2.2 3 3) 15) + (1 : Int32))))
def fX2_readEye_0 (M : eM) : Option (Int32 × eM) := ea_ck (ea_is (M.2.2 3 3) 1) (if (M.1 (M.2.2 3 3) 15) < (2 : Int32) then (ea_ck (ea_is (M.2.2 3 3) 1) (ea_ck (ea_is (M.2.2 3 3) 1) (ea_ci (fX2_readName (M.2.2 3 3 + 8) (M.1 (M.2.2 3 3) 15) M) (fun r6 M7 => if r6 = 0 then (some ((0 : Int32), M7)) else (fX2_readEye_42 (fX2_readEye_60) (fX2_readEye_104) ea_N (0 : Int32) M7))))) else (ea_ci (fX2_refuse (4 : Int32) M) (fun r10 M11 => ea_ck (ea_01 r10) (some (r10, M11)))))
def fX2_readEye (M : eM) : Option (Int32 × eM) := fX2_readEye_0 M
section SX2_readEye
variable {p : Program} {l : Launch} {e : Env} {s : State} {m : MethodId} {args : Array Value} {below : List Frame} {meth : Method} {cd : Code} {E : eE} {ids : List Nat} {res : Int32 × eM}
set_option maxHeartbeats 4000000 in
set_option maxRecDepth 20000 in
theorem wX2_readEye_42 (C : ea_C p s m args meth cd cX2_readEye 2 (some .boolean) RX2) (hX : ea_X ids) {k60 : eM → Option (Int32 × eM)} (hk60 : ∀  (M : eM) (H : Heap) (locs : List Loc) (ls : Array Slot), k60 M = some res → ea_w E ids M s H locs → lv_has ls 2 [(0, .ref (E.1 3))] → W p l e (ea_rm 5 107) s m args below meth cd H locs 0 0 (MQ below (ea_Qi E ids res) args s 0 0 (ea_Ad E ids)) (F0 m 60 ls [])) {k104 : eM → Option (Int32 × eM)} (hk104 : ∀  (M : eM) (H : Heap) (locs : List Loc) (ls : Array Slot), k104 M = some res → ea_w E ids M s H locs → lv_has ls 2 [(0, .ref (E.1 3))] → W p l e (ea_rm 5 107) s m args below meth cd H locs 0 0 (MQ below (ea_Qi E ids res) args s 0 0 (ea_Ad E ids)) (F0 m 104 ls [])) : ∀ (n : Nat) (x1 : Int32) (M : eM) (H : Heap) (locs : List Loc) (ls : Array Slot), fX2_readEye_42 k60 k104 n x1 M = some res → ea_w E ids M s H locs → lv_has ls 2 [(0, .ref (E.1 3)), (1, .int x1)] → W p l e (ea_rm 5 107) s m args below meth cd H locs 0 0 (MQ below (ea_Qi E ids res) args s 0 0 (ea_Ad E ids)) (F0 m 42 ls []) := by
  intro n
  induction n with
  | zero => intro x1 M H locs ls hf; cases hf
  | succ n ih =>
    intro x1 M H locs ls hf  hw hl
    replace hf := (fX2_readEye_42.eq_2 ..).symm.trans hf
    refine lv_iload_n C.1 C.2.1 dX2_readEye_42 rfl (lv_at hl 1 rfl) ?_
    refine lv_iconst (v := 3) C.1 C.2.1 dX2_readEye_43 (by decide) ?_
    refine lv_icmp_ge (tgt := 104) C.1 C.2.1 dX2_readEye_44 (by decide) (fun hc1 => ?_) (fun hc1 => ?_)
    · replace hf := ea_if_t hc1 hf
      exact hk104 _ _ _ _ hf hw (lv_sub hl [0] rfl)
    · replace hf := ea_if_f hc1 hf
      refine lv_aload_n C.1 C.2.1 dX2_readEye_47 rfl (lv_at hl 0 rfl) ?_
      obtain ⟨M3, he2, hf⟩ := ea_cv_s hf
      refine ea_runv hw (cl_X2_37 C hw (hX 3 2 rfl) (As := []) (rest := []) (mX2_advance (l := l) (E := E) (ids := ids) hX he2) (by decide) rfl hl.1 rfl (Nat.le_of_ble_eq_true rfl) dX2_readEye_48 ⟨Nat.le_refl _, Nat.le_refl _⟩) (fun H locs hw => ?_)
      refine lv_aload_n C.1 C.2.1 dX2_readEye_51 rfl (lv_at hl 0 rfl) ?_
      refine va_ldcS C.1 C.2.1 C.2.2.2.1 hw.2.2.2.2.2.2.2.2.2.2.2.2.2.2.2.2.2.2.1 dX2_readEye_52 ?_
      obtain ⟨r5, M6, he4, hf⟩ := ea_ci_s hf
      refine ea_runi2 hw (cl_X2_85 C hw (hX 3 2 rfl) (As := [.ref (E.2.2.2 (10 + 7))]) (rest := []) (mX2_says (l := l) (E := E) (ids := ids) hX (by decide) he4) (by decide) rfl hl.1 rfl (Nat.le_of_ble_eq_true rfl) dX2_readEye_54 ⟨Nat.le_refl _, Nat.le_refl _⟩) (fun H locs hw => ?_)
      refine lv_if_ne (tgt := 66) C.1 C.2.1 dX2_readEye_57 (by decide) (fun hc7 => ?_) (fun hc7 => ?_)
      · replace hf := ea_if_f hc7 hf
        refine lv_aload_n C.1 C.2.1 dX2_readEye_66 rfl (lv_at hl 0 rfl) ?_
        refine lv_aload_n C.1 C.2.1 dX2_readEye_67 rfl (lv_at hl 0 rfl) ?_
        refine gf_X2_22 C hw (hX 3 2 rfl) dX2_readEye_68 ?_
        obtain ⟨hc8, hf⟩ := ea_ck_s hf
        refine gf_X2_193 C hw (ea_dyn hX hc8) dX2_readEye_71 ?_
        refine lv_aload_n C.1 C.2.1 dX2_readEye_74 rfl (lv_at hl 0 rfl) ?_
        refine gf_X2_22 C hw (hX 3 2 rfl) dX2_readEye_75 ?_
        obtain ⟨hc9, hf⟩ := ea_ck_s hf
        refine gf_X2_185 C hw (ea_dyn hX hc9) dX2_readEye_78 ?_
        refine lv_bipush (v := 9) C.1 C.2.1 dX2_readEye_81 (by decide) ?_
        refine lv_imul C.1 C.2.1 dX2_readEye_83 ?_
        refine lv_iload_n C.1 C.2.1 dX2_readEye_84 rfl (lv_at hl 1 rfl) ?_
        refine lv_iconst (v := 3) C.1 C.2.1 dX2_readEye_85 (by decide) ?_
        refine lv_imul C.1 C.2.1 dX2_readEye_86 ?_
        refine lv_iadd C.1 C.2.1 dX2_readEye_87 ?_
        refine lv_bipush (v := 9) C.1 C.2.1 dX2_readEye_88 (by decide) ?_
        obtain ⟨r11, M12, he10, hf⟩ := ea_ci_s hf
        refine ea_runi2 hw (cl_X2_119 C hw (hX 3 2 rfl) (As := [.ref (E.1 (M6.2.2 3 3 + 9)), .int (((M6.1 (M6.2.2 3 3) 15) * (9 : Int32)) + (x1 * (3 : Int32))), .int (9 : Int32)]) (rest := []) (mX2_readRow (l := l) (E := E) (ids := ids) hX (ok_1_17 (ea_dyn hX hc8)) he10) (by decide) rfl hl.1 rfl (Nat.le_of_ble_eq_true rfl) dX2_readEye_90 ⟨Nat.le_refl _, Nat.le_refl _⟩) (fun H locs hw => ?_)
        refine lv_if_ne (tgt := 98) C.1 C.2.1 dX2_readEye_93 (by decide) (fun hc13 => ?_) (fun hc13 => ?_)
        · replace hf := ea_if_f hc13 hf
          refine lv_iinc (v := x1 + (1 : Int32)) (lv' := [(1, .int (x1 + (1 : Int32))), (0, .ref (E.1 3))]) C.1 C.2.1 dX2_readEye_98 hl (k := 1) rfl rfl (by decide) rfl (fun ls hl => ?_)
          refine lv_goto (tgt := 42) C.1 C.2.1 dX2_readEye_101 (by decide) ?_
          exact ih _ _ _ _ _ hf hw (lv_sub hl [1, 0] rfl)
        · replace hf := ea_if_t hc13 hf
          refine lv_iconst (v := 0) C.1 C.2.1 dX2_readEye_96 (by decide) ?_
          exact ea_zret C hw (by decide) hf dX2_readEye_97
      · replace hf := ea_if_t hc7 hf
        exact hk60 _ _ _ _ hf hw (lv_sub hl [0] rfl)
set_option maxHeartbeats 4000000 in
set_option maxRecDepth 20000 in
theorem wX2_readEye_60 (C : ea_C p s m args meth cd cX2_readEye 2 (some .boolean) RX2) (hX : ea_X ids) : ∀  (M : eM) (H : Heap) (locs : List Loc) (ls : Array Slot), fX2_readEye_60 M = some res → ea_w E ids M s H locs → lv_has ls 2 [(0, .ref (E.1 3))] → W p l e (ea_rm 5 107) s m args below meth cd H locs 0 0 (MQ below (ea_Qi E ids res) args s 0 0 (ea_Ad E ids)) (F0 m 60 ls []) := by
  intro M H locs ls hf  hw hl
  replace hf := (fX2_readEye_60.eq_1 ..).symm.trans hf
  refine lv_aload_n C.1 C.2.1 dX2_readEye_60 rfl (lv_at hl 0 rfl) ?_
  refine lv_iconst (v := 1) C.1 C.2.1 dX2_readEye_61 (by decide) ?_
  obtain ⟨r2, M3, he1, hf⟩ := ea_ci_s hf
  refine ea_runi2 hw (cl_X2_138 C hw (hX 3 2 rfl) (As := [.int (1 : Int32)]) (rest := []) (mX2_refuse (l := l) (E := E) (ids := ids) hX he1) (by decide) rfl hl.1 rfl (Nat.le_of_ble_eq_true rfl) dX2_readEye_62 ⟨Nat.le_refl _, Nat.le_refl _⟩) (fun H locs hw => ?_)
  obtain ⟨hc4, hf⟩ := ea_ck_s hf
  exact ea_zret C hw (ea_01_s hc4) hf dX2_readEye_65
set_option maxHeartbeats 4000000 in
set_option maxRecDepth 20000 in
theorem wX2_readEye_104 (C : ea_C p s m args meth cd cX2_readEye 2 (some .boolean) RX2) (hX : ea_X ids) : ∀  (M : eM) (H : Heap) (locs : List Loc) (ls : Array Slot), fX2_readEye_104 M = some res → ea_w E ids M s H locs → lv_has ls 2 [(0, .ref (E.1 3))] → W p l e (ea_rm 5 107) s m args below meth cd H locs 0 0 (MQ below (ea_Qi E ids res) args s 0 0 (ea_Ad E ids)) (F0 m 104 ls []) := by
  intro M H locs ls hf  hw hl
  replace hf := (fX2_readEye_104.eq_1 ..).symm.trans hf
  refine lv_aload_n C.1 C.2.1 dX2_readEye_104 rfl (lv_at hl 0 rfl) ?_
  refine gf_X2_22 C hw (hX 3 2 rfl) dX2_readEye_105 ?_
  obtain ⟨hc1, hf⟩ := ea_ck_s hf
  refine lv_dup C.1 C.2.1 dX2_readEye_108 rfl ?_
  refine gf_X2_185 C hw (ea_dyn hX hc1) dX2_readEye_109 ?_
  refine lv_iconst (v := 1) C.1 C.2.1 dX2_readEye_112 (by decide) ?_
  refine lv_iadd C.1 C.2.1 dX2_readEye_113 ?_
  refine pu_X2_185 C hw (ea_dyn hX hc1) dX2_readEye_114 (fun H locs hw => ?_)
  refine lv_iconst (v := 1) C.1 C.2.1 dX2_readEye_117 (by decide) ?_
  exact ea_zret C hw (by decide) hf dX2_readEye_118
set_option maxHeartbeats 4000000 in
set_option maxRecDepth 20000 in
theorem wX2_readEye_0 (C : ea_C p s m args meth cd cX2_readEye 2 (some .boolean) RX2) (hX : ea_X ids) : ∀  (M : eM) (H : Heap) (locs : List Loc) (ls : Array Slot), fX2_readEye_0 M = some res → ea_w E ids M s H locs → lv_has ls 2 [(0, .ref (E.1 3))] → W p l e (ea_rm 5 107) s m args below meth cd H locs 0 0 (MQ below (ea_Qi E ids res) args s 0 0 (ea_Ad E ids)) (F0 m 0 ls []) := by
  intro M H locs ls hf  hw hl
  replace hf := (fX2_readEye_0.eq_1 ..).symm.trans hf
  refine lv_aload_n C.1 C.2.1 dX2_readEye_0 rfl (lv_at hl 0 rfl) ?_
  refine gf_X2_22 C hw (hX 3 2 rfl) dX2_readEye_1 ?_
  obtain ⟨hc1, hf⟩ := ea_ck_s hf
  refine gf_X2_185 C hw (ea_dyn hX hc1) dX2_readEye_4 ?_
  refine lv_iconst (v := 2) C.1 C.2.1 dX2_readEye_7 (by decide) ?_
  refine lv_icmp_lt (tgt := 17) C.1 C.2.1 dX2_readEye_8 (by decide) (fun hc2 => ?_) (fun hc2 => ?_)
  · replace hf := ea_if_t hc2 hf
    refine lv_aload_n C.1 C.2.1 dX2_readEye_17 rfl (lv_at hl 0 rfl) ?_
    refine lv_aload_n C.1 C.2.1 dX2_readEye_18 rfl (lv_at hl 0 rfl) ?_
    refine gf_X2_22 C hw (hX 3 2 rfl) dX2_readEye_19 ?_
    obtain ⟨hc3, hf⟩ := ea_ck_s hf
    refine gf_X2_188 C hw (ea_dyn hX hc3) dX2_readEye_22 ?_
    refine lv_aload_n C.1 C.2.1 dX2_readEye_25 rfl (lv_at hl 0 rfl) ?_
    refine gf_X2_22 C hw (hX 3 2 rfl) dX2_readEye_26 ?_
    obtain ⟨hc4, hf⟩ := ea_ck_s hf
    refine gf_X2_185 C hw (ea_dyn hX hc4) dX2_readEye_29 ?_
    obtain ⟨r6, M7, he5, hf⟩ := ea_ci_s hf
    refine ea_runi2 hw (cl_X2_172 C hw (hX 3 2 rfl) (As := [.ref (E.1 (M.2.2 3 3 + 8)), .int (M.1 (M.2.2 3 3) 15)]) (rest := []) (mX2_readName (l := l) (E := E) (ids := ids) hX (ok_1_16 (ea_dyn hX hc3)) he5) (by decide) rfl hl.1 rfl (Nat.le_of_ble_eq_true rfl) dX2_readEye_32 ⟨Nat.le_refl _, Nat.le_refl _⟩) (fun H locs hw => ?_)
    refine lv_if_ne (tgt := 40) C.1 C.2.1 dX2_readEye_35 (by decide) (fun hc8 => ?_) (fun hc8 => ?_)
    · replace hf := ea_if_f hc8 hf
      refine lv_iconst (v := 0) C.1 C.2.1 dX2_readEye_40 (by decide) ?_
      refine lv_istore_n (lv' := [(1, .int (0 : Int32)), (0, .ref (E.1 3))]) C.1 C.2.1 dX2_readEye_41 rfl hl (by decide) rfl (fun ls hl => ?_)
      exact wX2_readEye_42 C hX (wX2_readEye_60 C hX) (wX2_readEye_104 C hX) ea_N _ _ _ _ _ hf hw (lv_sub hl [1, 0] rfl)
    · replace hf := ea_if_t hc8 hf
      refine lv_iconst (v := 0) C.1 C.2.1 dX2_readEye_38 (by decide) ?_
      exact ea_zret C hw (by decide) hf dX2_readEye_39
  · replace hf := ea_if_f hc2 hf
    refine lv_aload_n C.1 C.2.1 dX2_readEye_11 rfl (lv_at hl 0 rfl) ?_
    refine lv_iconst (v := 4) C.1 C.2.1 dX2_readEye_12 (by decide) ?_
    obtain ⟨r10, M11, he9, hf⟩ := ea_ci_s hf
    refine ea_runi2 hw (cl_X2_138 C hw (hX 3 2 rfl) (As := [.int (4 : Int32)]) (rest := []) (mX2_refuse (l := l) (E := E) (ids := ids) hX he9) (by decide) rfl hl.1 rfl (Nat.le_of_ble_eq_true rfl) dX2_readEye_13 ⟨Nat.le_refl _, Nat.le_refl _⟩) (fun H locs hw => ?_)
    obtain ⟨hc12, hf⟩ := ea_ck_s hf
    exact ea_zret C hw (ea_01_s hc12) hf dX2_readEye_16
set_option maxHeartbeats 4000000 in
set_option maxRecDepth 20000 in
theorem mX2_readEye {l : Launch} {E : eE} {ids : List Nat} (hX : ea_X ids) {M : eM} {res : Int32 × eM} (hf : fX2_readEye M = some res) : ea_Mi l yX2_readEye cX2_readEye 2 (some .boolean) 5 107 E ids [.ref (E.1 3)] M res := by
  refine ea_goi (by decide) (Nat.le_of_ble_eq_true rfl) wc_X2_readEye ?_
  intro p e s m below meth cd ls C hw hl
  exact wX2_readEye_0 C hX  _ _ _ _ hf hw hl
end SX2_readEye

def fX2_readTale_46 (k81 : Int32 → eM → Option (Int32 × eM)) : Nat → Int32 → eM → Option (Int32 × eM)
  | 0, _, _ => none
  | n + 1, x1, M => ea_ci (fX2_says 9 M) (fun r2 M3 => if r2 = 0 then (k81 x1 M3) else (if (6 : Int32) ≤ x1 then (k81 x1 M3) else (ea_ci (fX2_readHang x1 M3) (fun r7 M8 => if r7 = 0 then (some ((0 : Int32), M8)) else (ea_cv (fX2_advance M8) (fun M11 => fX2_readTale_46 k81 n (x1 + (1 : Int32)) M11))))))
def fX2_readTale_108 (M : eM) : Option (Int32 × eM) := ea_ci (fX2_refuse (1 : Int32) M) (fun r2 M3 => ea_ck (ea_01 r2) (some (r2, M3)))
def fX2_readTale_81 (x1 : Int32) (M : eM) : Option (Int32 × eM) := ea_ci (fX2_says 9 M) (fun r2 M3 => if r2 = 0 then (if x1 = 0 then (fX2_readTale_108 M3) else (if (M3.1 3 6) = (3 : Int32) then (ea_ck (ea_is (M3.2.2 3 3) 1) (ea_ck (ea_is (M3.2.2 3 3) 1) (ea_ck (ea_ix (M3.1 (M3.2.2 3 3) 11) (ea_len (M3.2.2 3 3 + 6))) (ea_ck (ea_is ((ea_pI M3 (M3.2.2 3 3 + 6) ((M3.1 (M3.2.2 3 3) 11).toNatClampNeg) x1).2.2 3 3) 1) (some ((1 : Int32), ea_pI (ea_pI M3 (M3.2.2 3 3 + 6) ((M3.1 (M3.2.2 3 3) 11).toNatClampNeg) x1) ((ea_pI M3 (M3.2.2 3 3 + 6) ((M3.1 (M3.2.2 3 3) 11).toNatClampNeg) x1).2.2 3 3) 11 (((ea_pI M3 (M3.2.2 3 3 + 6) ((M3.1 (M3.2.2 3 3) 11).toNatClampNeg) x1).1 ((ea_pI M3 (M3.2.2 3 3 + 6) ((M3.1 (M3.2.2 3 3) 11).toNatClampNeg) x1).2.2 3 3) 11) + (1 : Int32)))))))) else (fX2_readTale_108 M3))) else (ea_ci (fX2_refuse (4 : Int32) M3) (fun r12 M13 => ea_ck (ea_01 r12) (some (r12, M13)))))
def fX2_readTale_0 (M : eM) : Option (Int32 × eM) := ea_ck (ea_is (M.2.2 3 3) 1) (if (M.1 (M.2.2 3 3) 11) < (4 : Int32) then (ea_ck (ea_is (M.2.2 3 3) 1) (ea_ck (ea_is (M.2.2 3 3) 1) (ea_ci (fX2_readName (M.2.2 3 3 + 5) (M.1 (M.2.2 3 3) 11) M) (fun r6 M7 => if r6 = 0 then (some ((0 : Int32), M7)) else (ea_cv (fX2_advance M7) (fun M10 => fX2_readTale_46 (fX2_readTale_81) ea_N (0 : Int32) M10)))))) else (ea_ci (fX2_refuse (4 : Int32) M) (fun r12 M13 => ea_ck (ea_01 r12) (some (r12, M13)))))
def fX2_readTale (M : eM) : Option (Int32 × eM) := fX2_readTale_0 M
section SX2_readTale
variable {p : Program} {l : Launch} {e : Env} {s : State} {m : MethodId} {args : Array Value} {below : List Frame} {meth : Method} {cd : Code} {E : eE} {ids : List Nat} {res : Int32 × eM}
set_option maxHeartbeats 4000000 in
set_option maxRecDepth 20000 in
theorem wX2_readTale_46 (C : ea_C p s m args meth cd cX2_readTale 2 (some .boolean) RX2) (hX : ea_X ids) {k81 : Int32 → eM → Option (Int32 × eM)} (hk81 : ∀ (x1 : Int32) (M : eM) (H : Heap) (locs : List Loc) (ls : Array Slot), k81 x1 M = some res → ea_w E ids M s H locs → lv_has ls 2 [(0, .ref (E.1 3)), (1, .int x1)] → W p l e (ea_rm 5 107) s m args below meth cd H locs 0 0 (MQ below (ea_Qi E ids res) args s 0 0 (ea_Ad E ids)) (F0 m 81 ls [])) : ∀ (n : Nat) (x1 : Int32) (M : eM) (H : Heap) (locs : List Loc) (ls : Array Slot), fX2_readTale_46 k81 n x1 M = some res → ea_w E ids M s H locs → lv_has ls 2 [(0, .ref (E.1 3)), (1, .int x1)] → W p l e (ea_rm 5 107) s m args below meth cd H locs 0 0 (MQ below (ea_Qi E ids res) args s 0 0 (ea_Ad E ids)) (F0 m 46 ls []) := by
  intro n
  induction n with
  | zero => intro x1 M H locs ls hf; cases hf
  | succ n ih =>
    intro x1 M H locs ls hf  hw hl
    replace hf := (fX2_readTale_46.eq_2 ..).symm.trans hf
    refine lv_aload_n C.1 C.2.1 dX2_readTale_46 rfl (lv_at hl 0 rfl) ?_
    refine va_ldcS C.1 C.2.1 C.2.2.2.1 hw.2.2.2.2.2.2.2.2.2.2.2.2.2.2.2.2.2.2.2.2.1 dX2_readTale_47 ?_
    obtain ⟨r2, M3, he1, hf⟩ := ea_ci_s hf
    refine ea_runi2 hw (cl_X2_85 C hw (hX 3 2 rfl) (As := [.ref (E.2.2.2 (10 + 9))]) (rest := []) (mX2_says (l := l) (E := E) (ids := ids) hX (by decide) he1) (by decide) rfl hl.1 rfl (Nat.le_of_ble_eq_true rfl) dX2_readTale_49 ⟨Nat.le_refl _, Nat.le_refl _⟩) (fun H locs hw => ?_)
    refine lv_if_eq (tgt := 81) C.1 C.2.1 dX2_readTale_52 (by decide) (fun hc4 => ?_) (fun hc4 => ?_)
    · replace hf := ea_if_t hc4 hf
      exact hk81 _ _ _ _ _ hf hw (lv_sub hl [0, 1] rfl)
    · replace hf := ea_if_f hc4 hf
      refine lv_iload_n C.1 C.2.1 dX2_readTale_55 rfl (lv_at hl 1 rfl) ?_
      refine lv_bipush (v := 6) C.1 C.2.1 dX2_readTale_56 (by decide) ?_
      refine lv_icmp_ge (tgt := 81) C.1 C.2.1 dX2_readTale_58 (by decide) (fun hc5 => ?_) (fun hc5 => ?_)
      · replace hf := ea_if_t hc5 hf
        exact hk81 _ _ _ _ _ hf hw (lv_sub hl [0, 1] rfl)
      · replace hf := ea_if_f hc5 hf
        refine lv_aload_n C.1 C.2.1 dX2_readTale_61 rfl (lv_at hl 0 rfl) ?_
        refine lv_iload_n C.1 C.2.1 dX2_readTale_62 rfl (lv_at hl 1 rfl) ?_
        obtain ⟨r7, M8, he6, hf⟩ := ea_ci_s hf
        refine ea_runi2 hw (cl_X2_204 C hw (hX 3 2 rfl) (As := [.int x1]) (rest := []) (mX2_readHang (l := l) (E := E) (ids := ids) hX he6) (by decide) rfl hl.1 rfl (Nat.le_of_ble_eq_true rfl) dX2_readTale_63 ⟨Nat.le_refl _, Nat.le_refl _⟩) (fun H locs hw => ?_)
        refine lv_if_ne (tgt := 71) C.1 C.2.1 dX2_readTale_66 (by decide) (fun hc9 => ?_) (fun hc9 => ?_)
        · replace hf := ea_if_f hc9 hf
          refine lv_iinc (v := x1 + (1 : Int32)) (lv' := [(1, .int (x1 + (1 : Int32))), (0, .ref (E.1 3))]) C.1 C.2.1 dX2_readTale_71 hl (k := 1) rfl rfl (by decide) rfl (fun ls hl => ?_)
          refine lv_aload_n C.1 C.2.1 dX2_readTale_74 rfl (lv_at hl 1 rfl) ?_
          obtain ⟨M11, he10, hf⟩ := ea_cv_s hf
          refine ea_runv hw (cl_X2_37 C hw (hX 3 2 rfl) (As := []) (rest := []) (mX2_advance (l := l) (E := E) (ids := ids) hX he10) (by decide) rfl hl.1 rfl (Nat.le_of_ble_eq_true rfl) dX2_readTale_75 ⟨Nat.le_refl _, Nat.le_refl _⟩) (fun H locs hw => ?_)
          refine lv_goto (tgt := 46) C.1 C.2.1 dX2_readTale_78 (by decide) ?_
          exact ih _ _ _ _ _ hf hw (lv_sub hl [1, 0] rfl)
        · replace hf := ea_if_t hc9 hf
          refine lv_iconst (v := 0) C.1 C.2.1 dX2_readTale_69 (by decide) ?_
          exact ea_zret C hw (by decide) hf dX2_readTale_70
set_option maxHeartbeats 4000000 in
set_option maxRecDepth 20000 in
theorem wX2_readTale_108 (C : ea_C p s m args meth cd cX2_readTale 2 (some .boolean) RX2) (hX : ea_X ids) : ∀  (M : eM) (H : Heap) (locs : List Loc) (ls : Array Slot), fX2_readTale_108 M = some res → ea_w E ids M s H locs → lv_has ls 2 [(0, .ref (E.1 3))] → W p l e (ea_rm 5 107) s m args below meth cd H locs 0 0 (MQ below (ea_Qi E ids res) args s 0 0 (ea_Ad E ids)) (F0 m 108 ls []) := by
  intro M H locs ls hf  hw hl
  replace hf := (fX2_readTale_108.eq_1 ..).symm.trans hf
  refine lv_aload_n C.1 C.2.1 dX2_readTale_108 rfl (lv_at hl 0 rfl) ?_
  refine lv_iconst (v := 1) C.1 C.2.1 dX2_readTale_109 (by decide) ?_
  obtain ⟨r2, M3, he1, hf⟩ := ea_ci_s hf
  refine ea_runi2 hw (cl_X2_138 C hw (hX 3 2 rfl) (As := [.int (1 : Int32)]) (rest := []) (mX2_refuse (l := l) (E := E) (ids := ids) hX he1) (by decide) rfl hl.1 rfl (Nat.le_of_ble_eq_true rfl) dX2_readTale_110 ⟨Nat.le_refl _, Nat.le_refl _⟩) (fun H locs hw => ?_)
  obtain ⟨hc4, hf⟩ := ea_ck_s hf
  exact ea_zret C hw (ea_01_s hc4) hf dX2_readTale_113
set_option maxHeartbeats 4000000 in
set_option maxRecDepth 20000 in
theorem wX2_readTale_81 (C : ea_C p s m args meth cd cX2_readTale 2 (some .boolean) RX2) (hX : ea_X ids) : ∀ (x1 : Int32) (M : eM) (H : Heap) (locs : List Loc) (ls : Array Slot), fX2_readTale_81 x1 M = some res → ea_w E ids M s H locs → lv_has ls 2 [(0, .ref (E.1 3)), (1, .int x1)] → W p l e (ea_rm 5 107) s m args below meth cd H locs 0 0 (MQ below (ea_Qi E ids res) args s 0 0 (ea_Ad E ids)) (F0 m 81 ls []) := by
  intro x1 M H locs ls hf  hw hl
  replace hf := (fX2_readTale_81.eq_1 ..).symm.trans hf
  refine lv_aload_n C.1 C.2.1 dX2_readTale_81 rfl (lv_at hl 0 rfl) ?_
  refine va_ldcS C.1 C.2.1 C.2.2.2.1 hw.2.2.2.2.2.2.2.2.2.2.2.2.2.2.2.2.2.2.2.2.1 dX2_readTale_82 ?_
  obtain ⟨r2, M3, he1, hf⟩ := ea_ci_s hf
  refine ea_runi2 hw (cl_X2_85 C hw (hX 3 2 rfl) (As := [.ref (E.2.2.2 (10 + 9))]) (rest := []) (mX2_says (l := l) (E := E) (ids := ids) hX (by decide) he1) (by decide) rfl hl.1 rfl (Nat.le_of_ble_eq_true rfl) dX2_readTale_84 ⟨Nat.le_refl _, Nat.le_refl _⟩) (fun H locs hw => ?_)
  refine lv_if_eq (tgt := 96) C.1 C.2.1 dX2_readTale_87 (by decide) (fun hc4 => ?_) (fun hc4 => ?_)
  · replace hf := ea_if_t hc4 hf
    refine lv_iload_n C.1 C.2.1 dX2_readTale_96 rfl (lv_at hl 1 rfl) ?_
    refine lv_if_eq (tgt := 108) C.1 C.2.1 dX2_readTale_97 (by decide) (fun hc5 => ?_) (fun hc5 => ?_)
    · replace hf := ea_if_t hc5 hf
      exact wX2_readTale_108 C hX _ _ _ _ hf hw (lv_sub hl [0] rfl)
    · replace hf := ea_if_f hc5 hf
      refine lv_aload_n C.1 C.2.1 dX2_readTale_100 rfl (lv_at hl 0 rfl) ?_
      refine gf_X2_40 C hw (hX 3 2 rfl) dX2_readTale_101 ?_
      refine lv_iconst (v := 3) C.1 C.2.1 dX2_readTale_104 (by decide) ?_
      refine lv_icmp_eq (tgt := 114) C.1 C.2.1 dX2_readTale_105 (by decide) (fun hc6 => ?_) (fun hc6 => ?_)
      · replace hf := ea_if_t hc6 hf
        refine lv_aload_n C.1 C.2.1 dX2_readTale_114 rfl (lv_at hl 0 rfl) ?_
        refine gf_X2_22 C hw (hX 3 2 rfl) dX2_readTale_115 ?_
        obtain ⟨hc7, hf⟩ := ea_ck_s hf
        refine gf_X2_207 C hw (ea_dyn hX hc7) dX2_readTale_118 ?_
        refine lv_aload_n C.1 C.2.1 dX2_readTale_121 rfl (lv_at hl 0 rfl) ?_
        refine gf_X2_22 C hw (hX 3 2 rfl) dX2_readTale_122 ?_
        obtain ⟨hc8, hf⟩ := ea_ck_s hf
        refine gf_X2_196 C hw (ea_dyn hX hc8) dX2_readTale_125 ?_
        refine lv_iload_n C.1 C.2.1 dX2_readTale_128 rfl (lv_at hl 1 rfl) ?_
        obtain ⟨hc9, hf⟩ := ea_ck_s hf
        refine ea_iast C hw (ok_1_13 (ea_dyn hX hc7)) hc9 dX2_readTale_129 (fun H locs hw => ?_)
        refine lv_aload_n C.1 C.2.1 dX2_readTale_130 rfl (lv_at hl 0 rfl) ?_
        refine gf_X2_22 C hw (hX 3 2 rfl) dX2_readTale_131 ?_
        obtain ⟨hc10, hf⟩ := ea_ck_s hf
        refine lv_dup C.1 C.2.1 dX2_readTale_134 rfl ?_
        refine gf_X2_196 C hw (ea_dyn hX hc10) dX2_readTale_135 ?_
        refine lv_iconst (v := 1) C.1 C.2.1 dX2_readTale_138 (by decide) ?_
        refine lv_iadd C.1 C.2.1 dX2_readTale_139 ?_
        refine pu_X2_196 C hw (ea_dyn hX hc10) dX2_readTale_140 (fun H locs hw => ?_)
        refine lv_iconst (v := 1) C.1 C.2.1 dX2_readTale_143 (by decide) ?_
        exact ea_zret C hw (by decide) hf dX2_readTale_144
      · replace hf := ea_if_f hc6 hf
        exact wX2_readTale_108 C hX _ _ _ _ hf hw (lv_sub hl [0] rfl)
  · replace hf := ea_if_f hc4 hf
    refine lv_aload_n C.1 C.2.1 dX2_readTale_90 rfl (lv_at hl 0 rfl) ?_
    refine lv_iconst (v := 4) C.1 C.2.1 dX2_readTale_91 (by decide) ?_
    obtain ⟨r12, M13, he11, hf⟩ := ea_ci_s hf
    refine ea_runi2 hw (cl_X2_138 C hw (hX 3 2 rfl) (As := [.int (4 : Int32)]) (rest := []) (mX2_refuse (l := l) (E := E) (ids := ids) hX he11) (by decide) rfl hl.1 rfl (Nat.le_of_ble_eq_true rfl) dX2_readTale_92 ⟨Nat.le_refl _, Nat.le_refl _⟩) (fun H locs hw => ?_)
    obtain ⟨hc14, hf⟩ := ea_ck_s hf
    exact ea_zret C hw (ea_01_s hc14) hf dX2_readTale_95
set_option maxHeartbeats 4000000 in
set_option maxRecDepth 20000 in
theorem wX2_readTale_0 (C : ea_C p s m args meth cd cX2_readTale 2 (some .boolean) RX2) (hX : ea_X ids) : ∀  (M : eM) (H : Heap) (locs : List Loc) (ls : Array Slot), fX2_readTale_0 M = some res → ea_w E ids M s H locs → lv_has ls 2 [(0, .ref (E.1 3))] → W p l e (ea_rm 5 107) s m args below meth cd H locs 0 0 (MQ below (ea_Qi E ids res) args s 0 0 (ea_Ad E ids)) (F0 m 0 ls []) := by
  intro M H locs ls hf  hw hl
  replace hf := (fX2_readTale_0.eq_1 ..).symm.trans hf
  refine lv_aload_n C.1 C.2.1 dX2_readTale_0 rfl (lv_at hl 0 rfl) ?_
  refine gf_X2_22 C hw (hX 3 2 rfl) dX2_readTale_1 ?_
  obtain ⟨hc1, hf⟩ := ea_ck_s hf
  refine gf_X2_196 C hw (ea_dyn hX hc1) dX2_readTale_4 ?_
  refine lv_iconst (v := 4) C.1 C.2.1 dX2_readTale_7 (by decide) ?_
  refine lv_icmp_lt (tgt := 17) C.1 C.2.1 dX2_readTale_8 (by decide) (fun hc2 => ?_) (fun hc2 => ?_)
  · replace hf := ea_if_t hc2 hf
    refine lv_aload_n C.1 C.2.1 dX2_readTale_17 rfl (lv_at hl 0 rfl) ?_
    refine lv_aload_n C.1 C.2.1 dX2_readTale_18 rfl (lv_at hl 0 rfl) ?_
    refine gf_X2_22 C hw (hX 3 2 rfl) dX2_readTale_19 ?_
    obtain ⟨hc3, hf⟩ := ea_ck_s hf
    refine gf_X2_199 C hw (ea_dyn hX hc3) dX2_readTale_22 ?_
    refine lv_aload_n C.1 C.2.1 dX2_readTale_25 rfl (lv_at hl 0 rfl) ?_
    refine gf_X2_22 C hw (hX 3 2 rfl) dX2_readTale_26 ?_
    obtain ⟨hc4, hf⟩ := ea_ck_s hf
    refine gf_X2_196 C hw (ea_dyn hX hc4) dX2_readTale_29 ?_
    obtain ⟨r6, M7, he5, hf⟩ := ea_ci_s hf
    refine ea_runi2 hw (cl_X2_172 C hw (hX 3 2 rfl) (As := [.ref (E.1 (M.2.2 3 3 + 5)), .int (M.1 (M.2.2 3 3) 11)]) (rest := []) (mX2_readName (l := l) (E := E) (ids := ids) hX (ok_1_12 (ea_dyn hX hc3)) he5) (by decide) rfl hl.1 rfl (Nat.le_of_ble_eq_true rfl) dX2_readTale_32 ⟨Nat.le_refl _, Nat.le_refl _⟩) (fun H locs hw => ?_)
    refine lv_if_ne (tgt := 40) C.1 C.2.1 dX2_readTale_35 (by decide) (fun hc8 => ?_) (fun hc8 => ?_)
    · replace hf := ea_if_f hc8 hf
      refine lv_iconst (v := 0) C.1 C.2.1 dX2_readTale_40 (by decide) ?_
      refine lv_istore_n (lv' := [(1, .int (0 : Int32)), (0, .ref (E.1 3))]) C.1 C.2.1 dX2_readTale_41 rfl hl (by decide) rfl (fun ls hl => ?_)
      refine lv_aload_n C.1 C.2.1 dX2_readTale_42 rfl (lv_at hl 1 rfl) ?_
      obtain ⟨M10, he9, hf⟩ := ea_cv_s hf
      refine ea_runv hw (cl_X2_37 C hw (hX 3 2 rfl) (As := []) (rest := []) (mX2_advance (l := l) (E := E) (ids := ids) hX he9) (by decide) rfl hl.1 rfl (Nat.le_of_ble_eq_true rfl) dX2_readTale_43 ⟨Nat.le_refl _, Nat.le_refl _⟩) (fun H locs hw => ?_)
      exact wX2_readTale_46 C hX (wX2_readTale_81 C hX) ea_N _ _ _ _ _ hf hw (lv_sub hl [1, 0] rfl)
    · replace hf := ea_if_t hc8 hf
      refine lv_iconst (v := 0) C.1 C.2.1 dX2_readTale_38 (by decide) ?_
      exact ea_zret C hw (by decide) hf dX2_readTale_39
  · replace hf := ea_if_f hc2 hf
    refine lv_aload_n C.1 C.2.1 dX2_readTale_11 rfl (lv_at hl 0 rfl) ?_
    refine lv_iconst (v := 4) C.1 C.2.1 dX2_readTale_12 (by decide) ?_
    obtain ⟨r12, M13, he11, hf⟩ := ea_ci_s hf
    refine ea_runi2 hw (cl_X2_138 C hw (hX 3 2 rfl) (As := [.int (4 : Int32)]) (rest := []) (mX2_refuse (l := l) (E := E) (ids := ids) hX he11) (by decide) rfl hl.1 rfl (Nat.le_of_ble_eq_true rfl) dX2_readTale_13 ⟨Nat.le_refl _, Nat.le_refl _⟩) (fun H locs hw => ?_)
    obtain ⟨hc14, hf⟩ := ea_ck_s hf
    exact ea_zret C hw (ea_01_s hc14) hf dX2_readTale_16
set_option maxHeartbeats 4000000 in
set_option maxRecDepth 20000 in
theorem mX2_readTale {l : Launch} {E : eE} {ids : List Nat} (hX : ea_X ids) {M : eM} {res : Int32 × eM} (hf : fX2_readTale M = some res) : ea_Mi l yX2_readTale cX2_readTale 2 (some .boolean) 5 107 E ids [.ref (E.1 3)] M res := by
  refine ea_goi (by decide) (Nat.le_of_ble_eq_true rfl) wc_X2_readTale ?_
  intro p e s m below meth cd ls C hw hl
  exact wX2_readTale_0 C hX  _ _ _ _ hf hw hl
end SX2_readTale

def fX2_readClause_0 (M : eM) : Option (Int32 × eM) := ea_ci (fX2_says 0 M) (fun r2 M3 => if r2 = 0 then (ea_ci (fX2_says 1 M3) (fun r6 M7 => if r6 = 0 then (ea_ci (fX2_says 2 M7) (fun r10 M11 => if r10 = 0 then (ea_ci (fX2_says 3 M11) (fun r14 M15 => if r14 = 0 then (ea_ci (fX2_says 4 M15) (fun r18 M19 => if r18 = 0 then (ea_ci (fX2_says 5 M19) (fun r22 M23 => if r22 = 0 then (ea_ci (fX2_says 6 M23) (fun r26 M27 => if r26 = 0 then (ea_ci (fX2_says 8 M27) (fun r30 M31 => if r30 = 0 then (ea_ci (fX2_refuse (1 : Int32) M31) (fun r34 M35 => ea_ck (ea_01 r34) (some (r34, M35)))) else (ea_ci (fX2_readTale M31) (fun r38 M39 => ea_ck (ea_01 r38) (some (r38, M39)))))) else (ea_ci (fX2_readEye M27) (fun r42 M43 => if r42 = 0 then (some ((0 : Int32), M43)) else (ea_ci (fX2_closes M43) (fun r46 M47 => if r46 = 0 then (some ((0 : Int32), M47)) else (some ((1 : Int32), M47)))))))) else (ea_ci (fX2_readStuff M23) (fun r50 M51 => if r50 = 0 then (some ((0 : Int32), M51)) else (ea_ci (fX2_closes M51) (fun r54 M55 => if r54 = 0 then (some ((0 : Int32), M55)) else (some ((1 : Int32), M55)))))))) else (ea_ci (fX2_isFirst (8 : Int32) M19) (fun r58 M59 => if r58 = 0 then (some ((0 : Int32), M59)) else (ea_ck (ea_is (M59.2.2 3 3) 1) (ea_ci (fX2_readRow (M59.2.2 3 3 + 1) (0 : Int32) (200 : Int32) M59) (fun r63 M64 => if r63 = 0 then (some ((0 : Int32), M64)) else (ea_ci (fX2_closes M64) (fun r67 M68 => if r67 = 0 then (some ((0 : Int32), M68)) else (some ((1 : Int32), M68))))))))))) else (ea_ci (fX2_isFirst (4 : Int32) M15) (fun r71 M72 => if r71 = 0 then (some ((0 : Int32), M72)) else (ea_ci (fX2_readMost M72) (fun r75 M76 => if r75 = 0 then (some ((0 : Int32), M76)) else (ea_ci (fX2_closes M76) (fun r79 M80 => if r79 = 0 then (some ((0 : Int32), M80)) else (some ((1 : Int32), M80)))))))))) else (ea_ci (fX2_readMender M11) (fun r83 M84 => if r83 = 0 then (some ((0 : Int32), M84)) else (ea_ci (fX2_closes M84) (fun r87 M88 => if r87 = 0 then (some ((0 : Int32), M88)) else (some ((1 : Int32), M88)))))))) else (ea_ci (fX2_isFirst (2 : Int32) M7) (fun r91 M92 => if r91 = 0 then (some ((0 : Int32), M92)) else (ea_ci (fX2_readSlack M92) (fun r95 M96 => if r95 = 0 then (some ((0 : Int32), M96)) else (ea_ci (fX2_closes M96) (fun r99 M100 => if r99 = 0 then (some ((0 : Int32), M100)) else (some ((1 : Int32), M100)))))))))) else (ea_ci (fX2_isFirst (1 : Int32) M3) (fun r103 M104 => if r103 = 0 then (some ((0 : Int32), M104)) else (ea_ci (fX2_readSize M104) (fun r107 M108 => if r107 = 0 then (some ((0 : Int32), M108)) else (ea_ci (fX2_closes M108) (fun r111 M112 => if r111 = 0 then (some ((0 : Int32), M112)) else (some ((1 : Int32), M112)))))))))
def fX2_readClause (M : eM) : Option (Int32 × eM) := fX2_readClause_0 M
section SX2_readClause
variable {p : Program} {l : Launch} {e : Env} {s : State} {m : MethodId} {args : Array Value} {below : List Frame} {meth : Method} {cd : Code} {E : eE} {ids : List Nat} {res : Int32 × eM}
set_option maxHeartbeats 4000000 in
set_option maxRecDepth 20000 in
theorem wX2_readClause_0 (C : ea_C p s m args meth cd cX2_readClause 1 (some .boolean) RX2) (hX : ea_X ids) : ∀  (M : eM) (H : Heap) (locs : List Loc) (ls : Array Slot), fX2_readClause_0 M = some res → ea_w E ids M s H locs → lv_has ls 1 [(0, .ref (E.1 3))] → W p l e (ea_rm 6 128) s m args below meth cd H locs 0 0 (MQ below (ea_Qi E ids res) args s 0 0 (ea_Ad E ids)) (F0 m 0 ls []) := by
  intro M H locs ls hf  hw hl
  replace hf := (fX2_readClause_0.eq_1 ..).symm.trans hf
  refine lv_aload_n C.1 C.2.1 dX2_readClause_0 rfl (lv_at hl 0 rfl) ?_
  refine va_ldcS C.1 C.2.1 C.2.2.2.1 hw.2.2.2.2.2.2.2.2.2.2.2.1 dX2_readClause_1 ?_
  obtain ⟨r2, M3, he1, hf⟩ := ea_ci_s hf
  refine ea_runi2 hw (cl_X2_85 C hw (hX 3 2 rfl) (As := [.ref (E.2.2.2 (10 + 0))]) (rest := []) (mX2_says (l := l) (E := E) (ids := ids) hX (by decide) he1) (by decide) rfl hl.1 rfl (Nat.le_of_ble_eq_true rfl) dX2_readClause_3 ⟨Nat.le_refl _, Nat.le_refl _⟩) (fun H locs hw => ?_)
  refine lv_if_eq (tgt := 37) C.1 C.2.1 dX2_readClause_6 (by decide) (fun hc4 => ?_) (fun hc4 => ?_)
  · replace hf := ea_if_t hc4 hf
    refine lv_aload_n C.1 C.2.1 dX2_readClause_37 rfl (lv_at hl 0 rfl) ?_
    refine va_ldcS C.1 C.2.1 C.2.2.2.1 hw.2.2.2.2.2.2.2.2.2.2.2.2.1 dX2_readClause_38 ?_
    obtain ⟨r6, M7, he5, hf⟩ := ea_ci_s hf
    refine ea_runi2 hw (cl_X2_85 C hw (hX 3 2 rfl) (As := [.ref (E.2.2.2 (10 + 1))]) (rest := []) (mX2_says (l := l) (E := E) (ids := ids) hX (by decide) he5) (by decide) rfl hl.1 rfl (Nat.le_of_ble_eq_true rfl) dX2_readClause_40 ⟨Nat.le_refl _, Nat.le_refl _⟩) (fun H locs hw => ?_)
    refine lv_if_eq (tgt := 74) C.1 C.2.1 dX2_readClause_43 (by decide) (fun hc8 => ?_) (fun hc8 => ?_)
    · replace hf := ea_if_t hc8 hf
      refine lv_aload_n C.1 C.2.1 dX2_readClause_74 rfl (lv_at hl 0 rfl) ?_
      refine va_ldcS C.1 C.2.1 C.2.2.2.1 hw.2.2.2.2.2.2.2.2.2.2.2.2.2.1 dX2_readClause_75 ?_
      obtain ⟨r10, M11, he9, hf⟩ := ea_ci_s hf
      refine ea_runi2 hw (cl_X2_85 C hw (hX 3 2 rfl) (As := [.ref (E.2.2.2 (10 + 2))]) (rest := []) (mX2_says (l := l) (E := E) (ids := ids) hX (by decide) he9) (by decide) rfl hl.1 rfl (Nat.le_of_ble_eq_true rfl) dX2_readClause_77 ⟨Nat.le_refl _, Nat.le_refl _⟩) (fun H locs hw => ?_)
      refine lv_if_eq (tgt := 103) C.1 C.2.1 dX2_readClause_80 (by decide) (fun hc12 => ?_) (fun hc12 => ?_)
      · replace hf := ea_if_t hc12 hf
        refine lv_aload_n C.1 C.2.1 dX2_readClause_103 rfl (lv_at hl 0 rfl) ?_
        refine va_ldcS C.1 C.2.1 C.2.2.2.1 hw.2.2.2.2.2.2.2.2.2.2.2.2.2.2.1 dX2_readClause_104 ?_
        obtain ⟨r14, M15, he13, hf⟩ := ea_ci_s hf
        refine ea_runi2 hw (cl_X2_85 C hw (hX 3 2 rfl) (As := [.ref (E.2.2.2 (10 + 3))]) (rest := []) (mX2_says (l := l) (E := E) (ids := ids) hX (by decide) he13) (by decide) rfl hl.1 rfl (Nat.le_of_ble_eq_true rfl) dX2_readClause_106 ⟨Nat.le_refl _, Nat.le_refl _⟩) (fun H locs hw => ?_)
        refine lv_if_eq (tgt := 140) C.1 C.2.1 dX2_readClause_109 (by decide) (fun hc16 => ?_) (fun hc16 => ?_)
        · replace hf := ea_if_t hc16 hf
          refine lv_aload_n C.1 C.2.1 dX2_readClause_140 rfl (lv_at hl 0 rfl) ?_
          refine va_ldcS C.1 C.2.1 C.2.2.2.1 hw.2.2.2.2.2.2.2.2.2.2.2.2.2.2.2.1 dX2_readClause_141 ?_
          obtain ⟨r18, M19, he17, hf⟩ := ea_ci_s hf
          refine ea_runi2 hw (cl_X2_85 C hw (hX 3 2 rfl) (As := [.ref (E.2.2.2 (10 + 4))]) (rest := []) (mX2_says (l := l) (E := E) (ids := ids) hX (by decide) he17) (by decide) rfl hl.1 rfl (Nat.le_of_ble_eq_true rfl) dX2_readClause_143 ⟨Nat.le_refl _, Nat.le_refl _⟩) (fun H locs hw => ?_)
          refine lv_if_eq (tgt := 189) C.1 C.2.1 dX2_readClause_146 (by decide) (fun hc20 => ?_) (fun hc20 => ?_)
          · replace hf := ea_if_t hc20 hf
            refine lv_aload_n C.1 C.2.1 dX2_readClause_189 rfl (lv_at hl 0 rfl) ?_
            refine va_ldcS C.1 C.2.1 C.2.2.2.1 hw.2.2.2.2.2.2.2.2.2.2.2.2.2.2.2.2.1 dX2_readClause_190 ?_
            obtain ⟨r22, M23, he21, hf⟩ := ea_ci_s hf
            refine ea_runi2 hw (cl_X2_85 C hw (hX 3 2 rfl) (As := [.ref (E.2.2.2 (10 + 5))]) (rest := []) (mX2_says (l := l) (E := E) (ids := ids) hX (by decide) he21) (by decide) rfl hl.1 rfl (Nat.le_of_ble_eq_true rfl) dX2_readClause_192 ⟨Nat.le_refl _, Nat.le_refl _⟩) (fun H locs hw => ?_)
            refine lv_if_eq (tgt := 218) C.1 C.2.1 dX2_readClause_195 (by decide) (fun hc24 => ?_) (fun hc24 => ?_)
            · replace hf := ea_if_t hc24 hf
              refine lv_aload_n C.1 C.2.1 dX2_readClause_218 rfl (lv_at hl 0 rfl) ?_
              refine va_ldcS C.1 C.2.1 C.2.2.2.1 hw.2.2.2.2.2.2.2.2.2.2.2.2.2.2.2.2.2.1 dX2_readClause_219 ?_
              obtain ⟨r26, M27, he25, hf⟩ := ea_ci_s hf
              refine ea_runi2 hw (cl_X2_85 C hw (hX 3 2 rfl) (As := [.ref (E.2.2.2 (10 + 6))]) (rest := []) (mX2_says (l := l) (E := E) (ids := ids) hX (by decide) he25) (by decide) rfl hl.1 rfl (Nat.le_of_ble_eq_true rfl) dX2_readClause_221 ⟨Nat.le_refl _, Nat.le_refl _⟩) (fun H locs hw => ?_)
              refine lv_if_eq (tgt := 247) C.1 C.2.1 dX2_readClause_224 (by decide) (fun hc28 => ?_) (fun hc28 => ?_)
              · replace hf := ea_if_t hc28 hf
                refine lv_aload_n C.1 C.2.1 dX2_readClause_247 rfl (lv_at hl 0 rfl) ?_
                refine va_ldcS C.1 C.2.1 C.2.2.2.1 hw.2.2.2.2.2.2.2.2.2.2.2.2.2.2.2.2.2.2.2.1 dX2_readClause_248 ?_
                obtain ⟨r30, M31, he29, hf⟩ := ea_ci_s hf
                refine ea_runi2 hw (cl_X2_85 C hw (hX 3 2 rfl) (As := [.ref (E.2.2.2 (10 + 8))]) (rest := []) (mX2_says (l := l) (E := E) (ids := ids) hX (by decide) he29) (by decide) rfl hl.1 rfl (Nat.le_of_ble_eq_true rfl) dX2_readClause_250 ⟨Nat.le_refl _, Nat.le_refl _⟩) (fun H locs hw => ?_)
                refine lv_if_eq (tgt := 263) C.1 C.2.1 dX2_readClause_253 (by decide) (fun hc32 => ?_) (fun hc32 => ?_)
                · replace hf := ea_if_t hc32 hf
                  refine lv_aload_n C.1 C.2.1 dX2_readClause_263 rfl (lv_at hl 0 rfl) ?_
                  refine lv_iconst (v := 1) C.1 C.2.1 dX2_readClause_264 (by decide) ?_
                  obtain ⟨r34, M35, he33, hf⟩ := ea_ci_s hf
                  refine ea_runi2 hw (cl_X2_138 C hw (hX 3 2 rfl) (As := [.int (1 : Int32)]) (rest := []) (mX2_refuse (l := l) (E := E) (ids := ids) hX he33) (by decide) rfl hl.1 rfl (Nat.le_of_ble_eq_true rfl) dX2_readClause_265 ⟨Nat.le_refl _, Nat.le_refl _⟩) (fun H locs hw => ?_)
                  obtain ⟨hc36, hf⟩ := ea_ck_s hf
                  exact ea_zret C hw (ea_01_s hc36) hf dX2_readClause_268
                · replace hf := ea_if_f hc32 hf
                  refine lv_aload_n C.1 C.2.1 dX2_readClause_256 rfl (lv_at hl 0 rfl) ?_
                  obtain ⟨r38, M39, he37, hf⟩ := ea_ci_s hf
                  refine ea_runi2 hw (cl_X2_135 C hw (hX 3 2 rfl) (As := []) (rest := []) (mX2_readTale (l := l) (E := E) (ids := ids) hX he37) (by decide) rfl hl.1 rfl (Nat.le_of_ble_eq_true rfl) dX2_readClause_257 ⟨Nat.le_refl _, Nat.le_refl _⟩) (fun H locs hw => ?_)
                  refine lv_goto (tgt := 268) C.1 C.2.1 dX2_readClause_260 (by decide) ?_
                  obtain ⟨hc40, hf⟩ := ea_ck_s hf
                  exact ea_zret C hw (ea_01_s hc40) hf dX2_readClause_268
              · replace hf := ea_if_f hc28 hf
                refine lv_aload_n C.1 C.2.1 dX2_readClause_227 rfl (lv_at hl 0 rfl) ?_
                obtain ⟨r42, M43, he41, hf⟩ := ea_ci_s hf
                refine ea_runi2 hw (cl_X2_130 C hw (hX 3 2 rfl) (As := []) (rest := []) (mX2_readEye (l := l) (E := E) (ids := ids) hX he41) (by decide) rfl hl.1 rfl (Nat.le_of_ble_eq_true rfl) dX2_readClause_228 ⟨Nat.le_refl _, Nat.le_refl _⟩) (fun H locs hw => ?_)
                refine lv_if_eq (tgt := 245) C.1 C.2.1 dX2_readClause_231 (by decide) (fun hc44 => ?_) (fun hc44 => ?_)
                · replace hf := ea_if_t hc44 hf
                  refine lv_iconst (v := 0) C.1 C.2.1 dX2_readClause_245 (by decide) ?_
                  exact ea_zret C hw (by decide) hf dX2_readClause_246
                · replace hf := ea_if_f hc44 hf
                  refine lv_aload_n C.1 C.2.1 dX2_readClause_234 rfl (lv_at hl 0 rfl) ?_
                  obtain ⟨r46, M47, he45, hf⟩ := ea_ci_s hf
                  refine ea_runi2 hw (cl_X2_96 C hw (hX 3 2 rfl) (As := []) (rest := []) (mX2_closes (l := l) (E := E) (ids := ids) hX he45) (by decide) rfl hl.1 rfl (Nat.le_of_ble_eq_true rfl) dX2_readClause_235 ⟨Nat.le_refl _, Nat.le_refl _⟩) (fun H locs hw => ?_)
                  refine lv_if_eq (tgt := 245) C.1 C.2.1 dX2_readClause_238 (by decide) (fun hc48 => ?_) (fun hc48 => ?_)
                  · replace hf := ea_if_t hc48 hf
                    refine lv_iconst (v := 0) C.1 C.2.1 dX2_readClause_245 (by decide) ?_
                    exact ea_zret C hw (by decide) hf dX2_readClause_246
                  · replace hf := ea_if_f hc48 hf
                    refine lv_iconst (v := 1) C.1 C.2.1 dX2_readClause_241 (by decide) ?_
                    refine lv_goto (tgt := 246) C.1 C.2.1 dX2_readClause_242 (by decide) ?_
                    exact ea_zret C hw (by decide) hf dX2_readClause_246
            · replace hf := ea_if_f hc24 hf
              refine lv_aload_n C.1 C.2.1 dX2_readClause_198 rfl (lv_at hl 0 rfl) ?_
              obtain ⟨r50, M51, he49, hf⟩ := ea_ci_s hf
              refine ea_runi2 hw (cl_X2_125 C hw (hX 3 2 rfl) (As := []) (rest := []) (mX2_readStuff (l := l) (E := E) (ids := ids) hX he49) (by decide) rfl hl.1 rfl (Nat.le_of_ble_eq_true rfl) dX2_readClause_199 ⟨Nat.le_refl _, Nat.le_refl _⟩) (fun H locs hw => ?_)
              refine lv_if_eq (tgt := 216) C.1 C.2.1 dX2_readClause_202 (by decide) (fun hc52 => ?_) (fun hc52 => ?_)
              · replace hf := ea_if_t hc52 hf
                refine lv_iconst (v := 0) C.1 C.2.1 dX2_readClause_216 (by decide) ?_
                exact ea_zret C hw (by decide) hf dX2_readClause_217
              · replace hf := ea_if_f hc52 hf
                refine lv_aload_n C.1 C.2.1 dX2_readClause_205 rfl (lv_at hl 0 rfl) ?_
                obtain ⟨r54, M55, he53, hf⟩ := ea_ci_s hf
                refine ea_runi2 hw (cl_X2_96 C hw (hX 3 2 rfl) (As := []) (rest := []) (mX2_closes (l := l) (E := E) (ids := ids) hX he53) (by decide) rfl hl.1 rfl (Nat.le_of_ble_eq_true rfl) dX2_readClause_206 ⟨Nat.le_refl _, Nat.le_refl _⟩) (fun H locs hw => ?_)
                refine lv_if_eq (tgt := 216) C.1 C.2.1 dX2_readClause_209 (by decide) (fun hc56 => ?_) (fun hc56 => ?_)
                · replace hf := ea_if_t hc56 hf
                  refine lv_iconst (v := 0) C.1 C.2.1 dX2_readClause_216 (by decide) ?_
                  exact ea_zret C hw (by decide) hf dX2_readClause_217
                · replace hf := ea_if_f hc56 hf
                  refine lv_iconst (v := 1) C.1 C.2.1 dX2_readClause_212 (by decide) ?_
                  refine lv_goto (tgt := 217) C.1 C.2.1 dX2_readClause_213 (by decide) ?_
                  exact ea_zret C hw (by decide) hf dX2_readClause_217
          · replace hf := ea_if_f hc20 hf
            refine lv_aload_n C.1 C.2.1 dX2_readClause_149 rfl (lv_at hl 0 rfl) ?_
            refine lv_bipush (v := 8) C.1 C.2.1 dX2_readClause_150 (by decide) ?_
            obtain ⟨r58, M59, he57, hf⟩ := ea_ci_s hf
            refine ea_runi2 hw (cl_X2_89 C hw (hX 3 2 rfl) (As := [.int (8 : Int32)]) (rest := []) (mX2_isFirst (l := l) (E := E) (ids := ids) hX he57) (by decide) rfl hl.1 rfl (Nat.le_of_ble_eq_true rfl) dX2_readClause_152 ⟨Nat.le_refl _, Nat.le_refl _⟩) (fun H locs hw => ?_)
            refine lv_if_eq (tgt := 187) C.1 C.2.1 dX2_readClause_155 (by decide) (fun hc60 => ?_) (fun hc60 => ?_)
            · replace hf := ea_if_t hc60 hf
              refine lv_iconst (v := 0) C.1 C.2.1 dX2_readClause_187 (by decide) ?_
              exact ea_zret C hw (by decide) hf dX2_readClause_188
            · replace hf := ea_if_f hc60 hf
              refine lv_aload_n C.1 C.2.1 dX2_readClause_158 rfl (lv_at hl 0 rfl) ?_
              refine lv_aload_n C.1 C.2.1 dX2_readClause_159 rfl (lv_at hl 0 rfl) ?_
              refine gf_X2_22 C hw (hX 3 2 rfl) dX2_readClause_160 ?_
              obtain ⟨hc61, hf⟩ := ea_ck_s hf
              refine gf_X2_116 C hw (ea_dyn hX hc61) dX2_readClause_163 ?_
              refine lv_iconst (v := 0) C.1 C.2.1 dX2_readClause_166 (by decide) ?_
              refine lv_sipush (v := 200) C.1 C.2.1 dX2_readClause_167 (by decide) ?_
              obtain ⟨r63, M64, he62, hf⟩ := ea_ci_s hf
              refine ea_runi2 hw (cl_X2_119 C hw (hX 3 2 rfl) (As := [.ref (E.1 (M59.2.2 3 3 + 1)), .int (0 : Int32), .int (200 : Int32)]) (rest := []) (mX2_readRow (l := l) (E := E) (ids := ids) hX (ok_1_5 (ea_dyn hX hc61)) he62) (by decide) rfl hl.1 rfl (Nat.le_of_ble_eq_true rfl) dX2_readClause_170 ⟨Nat.le_refl _, Nat.le_refl _⟩) (fun H locs hw => ?_)
              refine lv_if_eq (tgt := 187) C.1 C.2.1 dX2_readClause_173 (by decide) (fun hc65 => ?_) (fun hc65 => ?_)
              · replace hf := ea_if_t hc65 hf
                refine lv_iconst (v := 0) C.1 C.2.1 dX2_readClause_187 (by decide) ?_
                exact ea_zret C hw (by decide) hf dX2_readClause_188
              · replace hf := ea_if_f hc65 hf
                refine lv_aload_n C.1 C.2.1 dX2_readClause_176 rfl (lv_at hl 0 rfl) ?_
                obtain ⟨r67, M68, he66, hf⟩ := ea_ci_s hf
                refine ea_runi2 hw (cl_X2_96 C hw (hX 3 2 rfl) (As := []) (rest := []) (mX2_closes (l := l) (E := E) (ids := ids) hX he66) (by decide) rfl hl.1 rfl (Nat.le_of_ble_eq_true rfl) dX2_readClause_177 ⟨Nat.le_refl _, Nat.le_refl _⟩) (fun H locs hw => ?_)
                refine lv_if_eq (tgt := 187) C.1 C.2.1 dX2_readClause_180 (by decide) (fun hc69 => ?_) (fun hc69 => ?_)
                · replace hf := ea_if_t hc69 hf
                  refine lv_iconst (v := 0) C.1 C.2.1 dX2_readClause_187 (by decide) ?_
                  exact ea_zret C hw (by decide) hf dX2_readClause_188
                · replace hf := ea_if_f hc69 hf
                  refine lv_iconst (v := 1) C.1 C.2.1 dX2_readClause_183 (by decide) ?_
                  refine lv_goto (tgt := 188) C.1 C.2.1 dX2_readClause_184 (by decide) ?_
                  exact ea_zret C hw (by decide) hf dX2_readClause_188
        · replace hf := ea_if_f hc16 hf
          refine lv_aload_n C.1 C.2.1 dX2_readClause_112 rfl (lv_at hl 0 rfl) ?_
          refine lv_iconst (v := 4) C.1 C.2.1 dX2_readClause_113 (by decide) ?_
          obtain ⟨r71, M72, he70, hf⟩ := ea_ci_s hf
          refine ea_runi2 hw (cl_X2_89 C hw (hX 3 2 rfl) (As := [.int (4 : Int32)]) (rest := []) (mX2_isFirst (l := l) (E := E) (ids := ids) hX he70) (by decide) rfl hl.1 rfl (Nat.le_of_ble_eq_true rfl) dX2_readClause_114 ⟨Nat.le_refl _, Nat.le_refl _⟩) (fun H locs hw => ?_)
          refine lv_if_eq (tgt := 138) C.1 C.2.1 dX2_readClause_117 (by decide) (fun hc73 => ?_) (fun hc73 => ?_)
          · replace hf := ea_if_t hc73 hf
            refine lv_iconst (v := 0) C.1 C.2.1 dX2_readClause_138 (by decide) ?_
            exact ea_zret C hw (by decide) hf dX2_readClause_139
          · replace hf := ea_if_f hc73 hf
            refine lv_aload_n C.1 C.2.1 dX2_readClause_120 rfl (lv_at hl 0 rfl) ?_
            obtain ⟨r75, M76, he74, hf⟩ := ea_ci_s hf
            refine ea_runi2 hw (cl_X2_111 C hw (hX 3 2 rfl) (As := []) (rest := []) (mX2_readMost (l := l) (E := E) (ids := ids) hX he74) (by decide) rfl hl.1 rfl (Nat.le_of_ble_eq_true rfl) dX2_readClause_121 ⟨Nat.le_refl _, Nat.le_refl _⟩) (fun H locs hw => ?_)
            refine lv_if_eq (tgt := 138) C.1 C.2.1 dX2_readClause_124 (by decide) (fun hc77 => ?_) (fun hc77 => ?_)
            · replace hf := ea_if_t hc77 hf
              refine lv_iconst (v := 0) C.1 C.2.1 dX2_readClause_138 (by decide) ?_
              exact ea_zret C hw (by decide) hf dX2_readClause_139
            · replace hf := ea_if_f hc77 hf
              refine lv_aload_n C.1 C.2.1 dX2_readClause_127 rfl (lv_at hl 0 rfl) ?_
              obtain ⟨r79, M80, he78, hf⟩ := ea_ci_s hf
              refine ea_runi2 hw (cl_X2_96 C hw (hX 3 2 rfl) (As := []) (rest := []) (mX2_closes (l := l) (E := E) (ids := ids) hX he78) (by decide) rfl hl.1 rfl (Nat.le_of_ble_eq_true rfl) dX2_readClause_128 ⟨Nat.le_refl _, Nat.le_refl _⟩) (fun H locs hw => ?_)
              refine lv_if_eq (tgt := 138) C.1 C.2.1 dX2_readClause_131 (by decide) (fun hc81 => ?_) (fun hc81 => ?_)
              · replace hf := ea_if_t hc81 hf
                refine lv_iconst (v := 0) C.1 C.2.1 dX2_readClause_138 (by decide) ?_
                exact ea_zret C hw (by decide) hf dX2_readClause_139
              · replace hf := ea_if_f hc81 hf
                refine lv_iconst (v := 1) C.1 C.2.1 dX2_readClause_134 (by decide) ?_
                refine lv_goto (tgt := 139) C.1 C.2.1 dX2_readClause_135 (by decide) ?_
                exact ea_zret C hw (by decide) hf dX2_readClause_139
      · replace hf := ea_if_f hc12 hf
        refine lv_aload_n C.1 C.2.1 dX2_readClause_83 rfl (lv_at hl 0 rfl) ?_
        obtain ⟨r83, M84, he82, hf⟩ := ea_ci_s hf
        refine ea_runi2 hw (cl_X2_106 C hw (hX 3 2 rfl) (As := []) (rest := []) (mX2_readMender (l := l) (E := E) (ids := ids) hX he82) (by decide) rfl hl.1 rfl (Nat.le_of_ble_eq_true rfl) dX2_readClause_84 ⟨Nat.le_refl _, Nat.le_refl _⟩) (fun H locs hw => ?_)
        refine lv_if_eq (tgt := 101) C.1 C.2.1 dX2_readClause_87 (by decide) (fun hc85 => ?_) (fun hc85 => ?_)
        · replace hf := ea_if_t hc85 hf
          refine lv_iconst (v := 0) C.1 C.2.1 dX2_readClause_101 (by decide) ?_
          exact ea_zret C hw (by decide) hf dX2_readClause_102
        · replace hf := ea_if_f hc85 hf
          refine lv_aload_n C.1 C.2.1 dX2_readClause_90 rfl (lv_at hl 0 rfl) ?_
          obtain ⟨r87, M88, he86, hf⟩ := ea_ci_s hf
          refine ea_runi2 hw (cl_X2_96 C hw (hX 3 2 rfl) (As := []) (rest := []) (mX2_closes (l := l) (E := E) (ids := ids) hX he86) (by decide) rfl hl.1 rfl (Nat.le_of_ble_eq_true rfl) dX2_readClause_91 ⟨Nat.le_refl _, Nat.le_refl _⟩) (fun H locs hw => ?_)
          refine lv_if_eq (tgt := 101) C.1 C.2.1 dX2_readClause_94 (by decide) (fun hc89 => ?_) (fun hc89 => ?_)
          · replace hf := ea_if_t hc89 hf
            refine lv_iconst (v := 0) C.1 C.2.1 dX2_readClause_101 (by decide) ?_
            exact ea_zret C hw (by decide) hf dX2_readClause_102
          · replace hf := ea_if_f hc89 hf
            refine lv_iconst (v := 1) C.1 C.2.1 dX2_readClause_97 (by decide) ?_
            refine lv_goto (tgt := 102) C.1 C.2.1 dX2_readClause_98 (by decide) ?_
            exact ea_zret C hw (by decide) hf dX2_readClause_102
    · replace hf := ea_if_f hc8 hf
      refine lv_aload_n C.1 C.2.1 dX2_readClause_46 rfl (lv_at hl 0 rfl) ?_
      refine lv_iconst (v := 2) C.1 C.2.1 dX2_readClause_47 (by decide) ?_
      obtain ⟨r91, M92, he90, hf⟩ := ea_ci_s hf
      refine ea_runi2 hw (cl_X2_89 C hw (hX 3 2 rfl) (As := [.int (2 : Int32)]) (rest := []) (mX2_isFirst (l := l) (E := E) (ids := ids) hX he90) (by decide) rfl hl.1 rfl (Nat.le_of_ble_eq_true rfl) dX2_readClause_48 ⟨Nat.le_refl _, Nat.le_refl _⟩) (fun H locs hw => ?_)
      refine lv_if_eq (tgt := 72) C.1 C.2.1 dX2_readClause_51 (by decide) (fun hc93 => ?_) (fun hc93 => ?_)
      · replace hf := ea_if_t hc93 hf
        refine lv_iconst (v := 0) C.1 C.2.1 dX2_readClause_72 (by decide) ?_
        exact ea_zret C hw (by decide) hf dX2_readClause_73
      · replace hf := ea_if_f hc93 hf
        refine lv_aload_n C.1 C.2.1 dX2_readClause_54 rfl (lv_at hl 0 rfl) ?_
        obtain ⟨r95, M96, he94, hf⟩ := ea_ci_s hf
        refine ea_runi2 hw (cl_X2_101 C hw (hX 3 2 rfl) (As := []) (rest := []) (mX2_readSlack (l := l) (E := E) (ids := ids) hX he94) (by decide) rfl hl.1 rfl (Nat.le_of_ble_eq_true rfl) dX2_readClause_55 ⟨Nat.le_refl _, Nat.le_refl _⟩) (fun H locs hw => ?_)
        refine lv_if_eq (tgt := 72) C.1 C.2.1 dX2_readClause_58 (by decide) (fun hc97 => ?_) (fun hc97 => ?_)
        · replace hf := ea_if_t hc97 hf
          refine lv_iconst (v := 0) C.1 C.2.1 dX2_readClause_72 (by decide) ?_
          exact ea_zret C hw (by decide) hf dX2_readClause_73
        · replace hf := ea_if_f hc97 hf
          refine lv_aload_n C.1 C.2.1 dX2_readClause_61 rfl (lv_at hl 0 rfl) ?_
          obtain ⟨r99, M100, he98, hf⟩ := ea_ci_s hf
          refine ea_runi2 hw (cl_X2_96 C hw (hX 3 2 rfl) (As := []) (rest := []) (mX2_closes (l := l) (E := E) (ids := ids) hX he98) (by decide) rfl hl.1 rfl (Nat.le_of_ble_eq_true rfl) dX2_readClause_62 ⟨Nat.le_refl _, Nat.le_refl _⟩) (fun H locs hw => ?_)
          refine lv_if_eq (tgt := 72) C.1 C.2.1 dX2_readClause_65 (by decide) (fun hc101 => ?_) (fun hc101 => ?_)
          · replace hf := ea_if_t hc101 hf
            refine lv_iconst (v := 0) C.1 C.2.1 dX2_readClause_72 (by decide) ?_
            exact ea_zret C hw (by decide) hf dX2_readClause_73
          · replace hf := ea_if_f hc101 hf
            refine lv_iconst (v := 1) C.1 C.2.1 dX2_readClause_68 (by decide) ?_
            refine lv_goto (tgt := 73) C.1 C.2.1 dX2_readClause_69 (by decide) ?_
            exact ea_zret C hw (by decide) hf dX2_readClause_73
  · replace hf := ea_if_f hc4 hf
    refine lv_aload_n C.1 C.2.1 dX2_readClause_9 rfl (lv_at hl 0 rfl) ?_
    refine lv_iconst (v := 1) C.1 C.2.1 dX2_readClause_10 (by decide) ?_
    obtain ⟨r103, M104, he102, hf⟩ := ea_ci_s hf
    refine ea_runi2 hw (cl_X2_89 C hw (hX 3 2 rfl) (As := [.int (1 : Int32)]) (rest := []) (mX2_isFirst (l := l) (E := E) (ids := ids) hX he102) (by decide) rfl hl.1 rfl (Nat.le_of_ble_eq_true rfl) dX2_readClause_11 ⟨Nat.le_refl _, Nat.le_refl _⟩) (fun H locs hw => ?_)
    refine lv_if_eq (tgt := 35) C.1 C.2.1 dX2_readClause_14 (by decide) (fun hc105 => ?_) (fun hc105 => ?_)
    · replace hf := ea_if_t hc105 hf
      refine lv_iconst (v := 0) C.1 C.2.1 dX2_readClause_35 (by decide) ?_
      exact ea_zret C hw (by decide) hf dX2_readClause_36
    · replace hf := ea_if_f hc105 hf
      refine lv_aload_n C.1 C.2.1 dX2_readClause_17 rfl (lv_at hl 0 rfl) ?_
      obtain ⟨r107, M108, he106, hf⟩ := ea_ci_s hf
      refine ea_runi2 hw (cl_X2_92 C hw (hX 3 2 rfl) (As := []) (rest := []) (mX2_readSize (l := l) (E := E) (ids := ids) hX he106) (by decide) rfl hl.1 rfl (Nat.le_of_ble_eq_true rfl) dX2_readClause_18 ⟨Nat.le_refl _, Nat.le_refl _⟩) (fun H locs hw => ?_)
      refine lv_if_eq (tgt := 35) C.1 C.2.1 dX2_readClause_21 (by decide) (fun hc109 => ?_) (fun hc109 => ?_)
      · replace hf := ea_if_t hc109 hf
        refine lv_iconst (v := 0) C.1 C.2.1 dX2_readClause_35 (by decide) ?_
        exact ea_zret C hw (by decide) hf dX2_readClause_36
      · replace hf := ea_if_f hc109 hf
        refine lv_aload_n C.1 C.2.1 dX2_readClause_24 rfl (lv_at hl 0 rfl) ?_
        obtain ⟨r111, M112, he110, hf⟩ := ea_ci_s hf
        refine ea_runi2 hw (cl_X2_96 C hw (hX 3 2 rfl) (As := []) (rest := []) (mX2_closes (l := l) (E := E) (ids := ids) hX he110) (by decide) rfl hl.1 rfl (Nat.le_of_ble_eq_true rfl) dX2_readClause_25 ⟨Nat.le_refl _, Nat.le_refl _⟩) (fun H locs hw => ?_)
        refine lv_if_eq (tgt := 35) C.1 C.2.1 dX2_readClause_28 (by decide) (fun hc113 => ?_) (fun hc113 => ?_)
        · replace hf := ea_if_t hc113 hf
          refine lv_iconst (v := 0) C.1 C.2.1 dX2_readClause_35 (by decide) ?_
          exact ea_zret C hw (by decide) hf dX2_readClause_36
        · replace hf := ea_if_f hc113 hf
          refine lv_iconst (v := 1) C.1 C.2.1 dX2_readClause_31 (by decide) ?_
          refine lv_goto (tgt := 36) C.1 C.2.1 dX2_readClause_32 (by decide) ?_
          exact ea_zret C hw (by decide) hf dX2_readClause_36
set_option maxHeartbeats 4000000 in
set_option maxRecDepth 20000 in
theorem mX2_readClause {l : Launch} {E : eE} {ids : List Nat} (hX : ea_X ids) {M : eM} {res : Int32 × eM} (hf : fX2_readClause M = some res) : ea_Mi l yX2_readClause cX2_readClause 1 (some .boolean) 6 128 E ids [.ref (E.1 3)] M res := by
  refine ea_goi (by decide) (Nat.le_of_ble_eq_true rfl) wc_X2_readClause ?_
  intro p e s m below meth cd ls C hw hl
  exact wX2_readClause_0 C hX  _ _ _ _ hf hw hl
end SX2_readClause

def fX10_cloth_13 (k64 : Int32 → eM → Option (Int32 × eM)) : Nat → Int32 → eM → Option (Int32 × eM)
  | 0, _, _ => none
  | n + 1, x1, M => if x1 = 0 then (k64 x1 M) else (ea_ck (ea_is (M.2.2 0 3) 1) (if (900 : Int32) ≤ (M.1 (M.2.2 0 3) 4) then (k64 x1 M) else (ea_ci (fX2_hasMore M) (fun r5 M6 => if r5 = 0 then (k64 x1 M6) else (ea_ci (fX2_readClause M6) (fun r9 M10 => ea_ck (ea_is (M10.2.2 0 3) 1) (fX10_cloth_13 k64 n r9 (ea_pI M10 (M10.2.2 0 3) 4 ((M10.1 (M10.2.2 0 3) 4) + (1 : Int32))))))))))
def fX10_cloth_111 (k136 : eM → Option (Int32 × eM)) : Nat → Int32 → eM → Option (Int32 × eM)
  | 0, _, _ => none
  | n + 1, x3, M => if (nI (ea_len 46)) ≤ x3 then (k136 M) else (ea_ck (ea_ix x3 (ea_len 46)) (fX10_cloth_111 k136 n (x3 + (1 : Int32)) (ea_pI M (34 + 4 * x3.toNatClampNeg) 7 (0 : Int32))))
def fX10_cloth_136 (M : eM) : Option (Int32 × eM) := ea_ck (ea_is (M.2.2 4 0) 1) (some (M.1 (M.2.2 4 0) 4, M))
def fX10_cloth_64 (x1 : Int32) (M : eM) : Option (Int32 × eM) := if x1 = 0 then (some ((-1 : Int32), ea_pI M 1 1 (0 : Int32))) else (ea_ck (ea_is ((ea_pI M 1 1 (0 : Int32)).2.2 4 0) 1) (ea_lt ((ea_pI M 1 1 (0 : Int32)).2.2 4 0) (fun y3 => ea_ck (ea_is ((ea_pI M 1 1 (0 : Int32)).2.2 0 3) 1) (ea_cv (fX9_spin ((ea_pI M 1 1 (0 : Int32)).2.2 0 3) (ea_pI M 1 1 (0 : Int32))) (fun M7 => ea_cv (fX8_clear 30 (ea_pR M7 0 3 y3)) (fun M9 => fX10_cloth_111 (fX10_cloth_136) ea_N (0 : Int32) M9))))))
def fX10_cloth_0 (M : eM) : Option (Int32 × eM) := ea_ck (ea_is (M.2.2 0 3) 1) (ea_cv (fX2_begin (M.2.2 0 3) M) (fun M3 => fX10_cloth_13 (fX10_cloth_64) ea_N (1 : Int32) M3))
def fX10_cloth (M : eM) : Option (Int32 × eM) := fX10_cloth_0 M
section SX10_cloth
variable {p : Program} {l : Launch} {e : Env} {s : State} {m : MethodId} {args : Array Value} {below : List Frame} {meth : Method} {cd : Code} {E : eE} {ids : List Nat} {res : Int32 × eM}
set_option maxHeartbeats 4000000 in
set_option maxRecDepth 20000 in
theorem wX10_cloth_13 (C : ea_C p s m args meth cd cX10_cloth 4 (some .int) RX10) (hX : ea_X ids) {k64 : Int32 → eM → Option (Int32 × eM)} (hk64 : ∀ (x1 : Int32) (M : eM) (H : Heap) (locs : List Loc) (ls : Array Slot), k64 x1 M = some res → ea_w E ids M s H locs → lv_has ls 4 [(0, .ref (E.1 0)), (1, .int x1)] → W p l e (ea_rm 7 148) s m args below meth cd H locs 0 0 (MQ below (ea_Qi E ids res) args s 0 0 (ea_Ad E ids)) (F0 m 64 ls [])) : ∀ (n : Nat) (x1 : Int32) (M : eM) (H : Heap) (locs : List Loc) (ls : Array Slot), fX10_cloth_13 k64 n x1 M = some res → ea_w E ids M s H locs → lv_has ls 4 [(0, .ref (E.1 0)), (1, .int x1)] → W p l e (ea_rm 7 148) s m args below meth cd H locs 0 0 (MQ below (ea_Qi E ids res) args s 0 0 (ea_Ad E ids)) (F0 m 13 ls []) := by
  intro n
  induction n with
  | zero => intro x1 M H locs ls hf; cases hf
  | succ n ih =>
    intro x1 M H locs ls hf  hw hl
    replace hf := (fX10_cloth_13.eq_2 ..).symm.trans hf
    refine lv_iload_n C.1 C.2.1 dX10_cloth_13 rfl (lv_at hl 1 rfl) ?_
    refine lv_if_eq (tgt := 64) C.1 C.2.1 dX10_cloth_14 (by decide) (fun hc1 => ?_) (fun hc1 => ?_)
    · replace hf := ea_if_t hc1 hf
      exact hk64 _ _ _ _ _ hf hw (lv_sub hl [0, 1] rfl)
    · replace hf := ea_if_f hc1 hf
      refine lv_aload_n C.1 C.2.1 dX10_cloth_17 rfl (lv_at hl 0 rfl) ?_
      refine gf_X10_28 C hw (hX 0 10 rfl) dX10_cloth_18 ?_
      obtain ⟨hc2, hf⟩ := ea_ck_s hf
      refine gf_X10_100 C hw (ea_dyn hX hc2) dX10_cloth_21 ?_
      refine lv_sipush (v := 900) C.1 C.2.1 dX10_cloth_24 (by decide) ?_
      refine lv_icmp_ge (tgt := 64) C.1 C.2.1 dX10_cloth_27 (by decide) (fun hc3 => ?_) (fun hc3 => ?_)
      · replace hf := ea_if_t hc3 hf
        exact hk64 _ _ _ _ _ hf hw (lv_sub hl [0, 1] rfl)
      · replace hf := ea_if_f hc3 hf
        refine lv_aload_n C.1 C.2.1 dX10_cloth_30 rfl (lv_at hl 0 rfl) ?_
        refine gf_X10_37 C hw (hX 0 10 rfl) dX10_cloth_31 ?_
        obtain ⟨r5, M6, he4, hf⟩ := ea_ci_s hf
        refine ea_runi2 hw (cl_X10_103 C hw (hX 3 2 rfl) (As := []) (rest := []) (mX2_hasMore (l := l) (E := E) (ids := ids) hX he4) (by decide) rfl hl.1 rfl (Nat.le_of_ble_eq_true rfl) dX10_cloth_34 ⟨Nat.le_refl _, Nat.le_refl _⟩) (fun H locs hw => ?_)
        refine lv_if_eq (tgt := 64) C.1 C.2.1 dX10_cloth_37 (by decide) (fun hc7 => ?_) (fun hc7 => ?_)
        · replace hf := ea_if_t hc7 hf
          exact hk64 _ _ _ _ _ hf hw (lv_sub hl [0, 1] rfl)
        · replace hf := ea_if_f hc7 hf
          refine lv_aload_n C.1 C.2.1 dX10_cloth_40 rfl (lv_at hl 0 rfl) ?_
          refine gf_X10_37 C hw (hX 0 10 rfl) dX10_cloth_41 ?_
          obtain ⟨r9, M10, he8, hf⟩ := ea_ci_s hf
          refine ea_runi2 hw (cl_X10_107 C hw (hX 3 2 rfl) (As := []) (rest := []) (mX2_readClause (l := l) (E := E) (ids := ids) hX he8) (by decide) rfl hl.1 rfl (Nat.le_of_ble_eq_true rfl) dX10_cloth_44 ⟨Nat.le_refl _, Nat.le_refl _⟩) (fun H locs hw => ?_)
          refine lv_istore_n (lv' := [(1, .int r9), (0, .ref (E.1 0))]) C.1 C.2.1 dX10_cloth_47 rfl hl (by decide) rfl (fun ls hl => ?_)
          refine lv_aload_n C.1 C.2.1 dX10_cloth_48 rfl (lv_at hl 1 rfl) ?_
          refine gf_X10_28 C hw (hX 0 10 rfl) dX10_cloth_49 ?_
          obtain ⟨hc11, hf⟩ := ea_ck_s hf
          refine lv_dup C.1 C.2.1 dX10_cloth_52 rfl ?_
          refine gf_X10_100 C hw (ea_dyn hX hc11) dX10_cloth_53 ?_
          refine lv_iconst (v := 1) C.1 C.2.1 dX10_cloth_56 (by decide) ?_
          refine lv_iadd C.1 C.2.1 dX10_cloth_57 ?_
          refine pu_X10_100 C hw (ea_dyn hX hc11) dX10_cloth_58 (fun H locs hw => ?_)
          refine lv_goto (tgt := 13) C.1 C.2.1 dX10_cloth_61 (by decide) ?_
          exact ih _ _ _ _ _ hf hw (lv_sub hl [1, 0] rfl)
set_option maxHeartbeats 4000000 in
set_option maxRecDepth 20000 in
theorem wX10_cloth_111 (C : ea_C p s m args meth cd cX10_cloth 4 (some .int) RX10) (hX : ea_X ids) {k136 : eM → Option (Int32 × eM)} (hk136 : ∀  (M : eM) (H : Heap) (locs : List Loc) (ls : Array Slot), k136 M = some res → ea_w E ids M s H locs → lv_has ls 4 [(0, .ref (E.1 0))] → W p l e (ea_rm 7 148) s m args below meth cd H locs 0 0 (MQ below (ea_Qi E ids res) args s 0 0 (ea_Ad E ids)) (F0 m 136 ls [])) : ∀ (n : Nat) (x3 : Int32) (M : eM) (H : Heap) (locs : List Loc) (ls : Array Slot), fX10_cloth_111 k136 n x3 M = some res → ea_w E ids M s H locs → lv_has ls 4 [(0, .ref (E.1 0)), (3, .int x3)] → W p l e (ea_rm 7 148) s m args below meth cd H locs 0 0 (MQ below (ea_Qi E ids res) args s 0 0 (ea_Ad E ids)) (F0 m 111 ls []) := by
  intro n
  induction n with
  | zero => intro x3 M H locs ls hf; cases hf
  | succ n ih =>
    intro x3 M H locs ls hf  hw hl
    replace hf := (fX10_cloth_111.eq_2 ..).symm.trans hf
    refine lv_iload_n C.1 C.2.1 dX10_cloth_111 rfl (lv_at hl 1 rfl) ?_
    refine lv_aload_n C.1 C.2.1 dX10_cloth_112 rfl (lv_at hl 0 rfl) ?_
    refine gf_X10_48 C hw (hX 0 10 rfl) dX10_cloth_113 ?_
    refine ea_alen C hw (hX 46 24 rfl) (by decide) dX10_cloth_116 ?_
    refine lv_icmp_ge (tgt := 136) C.1 C.2.1 dX10_cloth_117 (by decide) (fun hc1 => ?_) (fun hc1 => ?_)
    · replace hf := ea_if_t hc1 hf
      exact hk136 _ _ _ _ hf hw (lv_sub hl [0] rfl)
    · replace hf := ea_if_f hc1 hf
      refine lv_aload_n C.1 C.2.1 dX10_cloth_120 rfl (lv_at hl 0 rfl) ?_
      refine gf_X10_48 C hw (hX 0 10 rfl) dX10_cloth_121 ?_
      refine lv_iload_n C.1 C.2.1 dX10_cloth_124 rfl (lv_at hl 1 rfl) ?_
      obtain ⟨hc2, hf⟩ := ea_ck_s hf
      refine ea_aald C hw (hX 46 24 rfl) hc2 dX10_cloth_125 ?_
      refine lv_iconst (v := 0) C.1 C.2.1 dX10_cloth_126 (by decide) ?_
      refine pu_X10_119 C hw (ok_slot hX (ea_ixs hc2)) (by decide) dX10_cloth_127 (fun H locs hw => ?_)
      refine lv_iinc (v := x3 + (1 : Int32)) (lv' := [(3, .int (x3 + (1 : Int32))), (0, .ref (E.1 0))]) C.1 C.2.1 dX10_cloth_130 hl (k := 1) rfl rfl (by decide) rfl (fun ls hl => ?_)
      refine lv_goto (tgt := 111) C.1 C.2.1 dX10_cloth_133 (by decide) ?_
      exact ih _ _ _ _ _ hf hw (lv_sub hl [1, 0] rfl)
set_option maxHeartbeats 4000000 in
set_option maxRecDepth 20000 in
theorem wX10_cloth_136 (C : ea_C p s m args meth cd cX10_cloth 4 (some .int) RX10) (hX : ea_X ids) : ∀  (M : eM) (H : Heap) (locs : List Loc) (ls : Array Slot), fX10_cloth_136 M = some res → ea_w E ids M s H locs → lv_has ls 4 [(0, .ref (E.1 0))] → W p l e (ea_rm 7 148) s m args below meth cd H locs 0 0 (MQ below (ea_Qi E ids res) args s 0 0 (ea_Ad E ids)) (F0 m 136 ls []) := by
  intro M H locs ls hf  hw hl
  replace hf := (fX10_cloth_136.eq_1 ..).symm.trans hf
  refine lv_aload_n C.1 C.2.1 dX10_cloth_136 rfl (lv_at hl 0 rfl) ?_
  refine gf_X10_24 C hw (hX 0 10 rfl) dX10_cloth_137 ?_
  refine gf_X10_110 C hw (hX 4 9 rfl) dX10_cloth_140 ?_
  obtain ⟨hc1, hf⟩ := ea_ck_s hf
  refine gf_X10_100 C hw (ea_dyn hX hc1) dX10_cloth_143 ?_
  exact ea_iret C hw hf dX10_cloth_146
set_option maxHeartbeats 4000000 in
set_option maxRecDepth 20000 in
theorem wX10_cloth_64 (C : ea_C p s m args meth cd cX10_cloth 4 (some .int) RX10) (hX : ea_X ids) : ∀ (x1 : Int32) (M : eM) (H : Heap) (locs : List Loc) (ls : Array Slot), fX10_cloth_64 x1 M = some res → ea_w E ids M s H locs → lv_has ls 4 [(0, .ref (E.1 0)), (1, .int x1)] → W p l e (ea_rm 7 148) s m args below meth cd H locs 0 0 (MQ below (ea_Qi E ids res) args s 0 0 (ea_Ad E ids)) (F0 m 64 ls []) := by
  intro x1 M H locs ls hf  hw hl
  replace hf := (fX10_cloth_64.eq_1 ..).symm.trans hf
  refine lv_aload_n C.1 C.2.1 dX10_cloth_64 rfl (lv_at hl 0 rfl) ?_
  refine gf_X10_10 C hw (hX 0 10 rfl) dX10_cloth_65 ?_
  refine lv_iconst (v := 0) C.1 C.2.1 dX10_cloth_68 (by decide) ?_
  refine pu_X10_89 C hw (hX 1 7 rfl) dX10_cloth_69 (fun H locs hw => ?_)
  refine lv_iload_n C.1 C.2.1 dX10_cloth_72 rfl (lv_at hl 1 rfl) ?_
  refine lv_if_ne (tgt := 78) C.1 C.2.1 dX10_cloth_73 (by decide) (fun hc1 => ?_) (fun hc1 => ?_)
  · replace hf := ea_if_f hc1 hf
    refine lv_aload_n C.1 C.2.1 dX10_cloth_78 rfl (lv_at hl 0 rfl) ?_
    refine gf_X10_24 C hw (hX 0 10 rfl) dX10_cloth_79 ?_
    refine gf_X10_110 C hw (hX 4 9 rfl) dX10_cloth_82 ?_
    obtain ⟨hc2, hf⟩ := ea_ck_s hf
    obtain ⟨y3, ey4, hf⟩ := ea_lt_s hf
    refine ea_topr ey4 ?_
    have ho_y3 : ea_ok ids y3 1 := by rw [← ey4]; exact (ea_dyn hX hc2)
    refine lv_astore_n (lv' := [(2, .ref (E.1 y3)), (0, .ref (E.1 0)), (1, .int x1)]) C.1 C.2.1 dX10_cloth_85 rfl hl (by decide) rfl (fun ls hl => ?_)
    refine lv_aload_n C.1 C.2.1 dX10_cloth_86 rfl (lv_at hl 1 rfl) ?_
    refine gf_X10_24 C hw (hX 0 10 rfl) dX10_cloth_87 ?_
    refine lv_aload_n C.1 C.2.1 dX10_cloth_90 rfl (lv_at hl 1 rfl) ?_
    refine gf_X10_28 C hw (hX 0 10 rfl) dX10_cloth_91 ?_
    obtain ⟨hc5, hf⟩ := ea_ck_s hf
    obtain ⟨M7, he6, hf⟩ := ea_cv_s hf
    refine ea_runv hw (cl_X10_113 C hw (hX 4 9 rfl) (As := [.ref (E.1 ((ea_pI M 1 1 (0 : Int32)).2.2 0 3))]) (rest := []) (mX9_spin (l := l) (E := E) (ids := ids) hX (ea_dyn hX hc5) he6) (by decide) rfl hl.1 rfl (Nat.le_of_ble_eq_true rfl) dX10_cloth_94 ⟨Nat.le_refl _, Nat.le_refl _⟩) (fun H locs hw => ?_)
    refine lv_aload_n C.1 C.2.1 dX10_cloth_97 rfl (lv_at hl 1 rfl) ?_
    refine lv_aload_n C.1 C.2.1 dX10_cloth_98 rfl (lv_at hl 0 rfl) ?_
    refine pu_X10_28 C hw (hX 0 10 rfl) dX10_cloth_99 (fun H locs hw => ?_)
    refine lv_aload_n C.1 C.2.1 dX10_cloth_102 rfl (lv_at hl 1 rfl) ?_
    refine gf_X10_44 C hw (hX 0 10 rfl) dX10_cloth_103 ?_
    obtain ⟨M9, he8, hf⟩ := ea_cv_s hf
    refine ea_runv hw (cl_X10_116 C hw (hX 30 8 rfl) (As := []) (rest := []) (mX8_clear (l := l) (E := E) (ids := ids) hX (hX 30 8 rfl) he8) (by decide) rfl hl.1 rfl (Nat.le_of_ble_eq_true rfl) dX10_cloth_106 ⟨Nat.le_refl _, Nat.le_refl _⟩) (fun H locs hw => ?_)
    refine lv_iconst (v := 0) C.1 C.2.1 dX10_cloth_109 (by decide) ?_
    refine lv_istore_n (lv' := [(3, .int (0 : Int32)), (2, .ref (E.1 y3)), (0, .ref (E.1 0)), (1, .int x1)]) C.1 C.2.1 dX10_cloth_110 rfl hl (by decide) rfl (fun ls hl => ?_)
    exact wX10_cloth_111 C hX (wX10_cloth_136 C hX) ea_N _ _ _ _ _ hf hw (lv_sub hl [2, 0] rfl)
  · replace hf := ea_if_t hc1 hf
    refine lv_iconst (v := (-1 : Int32)) C.1 C.2.1 dX10_cloth_76 (by decide) ?_
    exact ea_iret C hw hf dX10_cloth_77
set_option maxHeartbeats 4000000 in
set_option maxRecDepth 20000 in
theorem wX10_cloth_0 (C : ea_C p s m args meth cd cX10_cloth 4 (some .int) RX10) (hX : ea_X ids) : ∀  (M : eM) (H : Heap) (locs : List Loc) (ls : Array Slot), fX10_cloth_0 M = some res → ea_w E ids M s H locs → lv_has ls 4 [(0, .ref (E.1 0))] → W p l e (ea_rm 7 148) s m args below meth cd H locs 0 0 (MQ below (ea_Qi E ids res) args s 0 0 (ea_Ad E ids)) (F0 m 0 ls []) := by
  intro M H locs ls hf  hw hl
  replace hf := (fX10_cloth_0.eq_1 ..).symm.trans hf
  refine lv_aload_n C.1 C.2.1 dX10_cloth_0 rfl (lv_at hl 0 rfl) ?_
  refine gf_X10_37 C hw (hX 0 10 rfl) dX10_cloth_1 ?_
  refine lv_aload_n C.1 C.2.1 dX10_cloth_4 rfl (lv_at hl 0 rfl) ?_
  refine gf_X10_28 C hw (hX 0 10 rfl) dX10_cloth_5 ?_
  obtain ⟨hc1, hf⟩ := ea_ck_s hf
  obtain ⟨M3, he2, hf⟩ := ea_cv_s hf
  refine ea_runv hw (cl_X10_97 C hw (hX 3 2 rfl) (As := [.ref (E.1 (M.2.2 0 3))]) (rest := []) (mX2_begin (l := l) (E := E) (ids := ids) hX (ea_dyn hX hc1) he2) (by decide) rfl hl.1 rfl (Nat.le_of_ble_eq_true rfl) dX10_cloth_8 ⟨Nat.le_refl _, Nat.le_refl _⟩) (fun H locs hw => ?_)
  refine lv_iconst (v := 1) C.1 C.2.1 dX10_cloth_11 (by decide) ?_
  refine lv_istore_n (lv' := [(1, .int (1 : Int32)), (0, .ref (E.1 0))]) C.1 C.2.1 dX10_cloth_12 rfl hl (by decide) rfl (fun ls hl => ?_)
  exact wX10_cloth_13 C hX (wX10_cloth_64 C hX) ea_N _ _ _ _ _ hf hw (lv_sub hl [1, 0] rfl)
set_option maxHeartbeats 4000000 in
set_option maxRecDepth 20000 in
theorem mX10_cloth {l : Launch} {E : eE} {ids : List Nat} (hX : ea_X ids) {M : eM} {res : Int32 × eM} (hf : fX10_cloth M = some res) : ea_Mi l yX10_cloth cX10_cloth 4 (some .int) 7 148 E ids [.ref (E.1 0)] M res := by
  refine ea_goi (by decide) (Nat.le_of_ble_eq_true rfl) wc_X10_cloth ?_
  intro p e s m below meth cd ls C hw hl
  exact wX10_cloth_0 C hX  _ _ _ _ hf hw hl
end SX10_cloth

def fX11_keyAt_89 (k52 : Int32 → Int32 → Int32 → Int32 → Int32 → Int32 → Int32 → eM → Option (Int32 × eM)) (x1 : Int32) (x2 : Int32) (x3 : Int32) (x4 : Int32) (x5 : Int32) (x7 : Int32) (t0 : Int32) (M : eM) : Option (Int32 × eM) := k52 x1 x2 x3 x4 x5 t0 (x7 + (1 : Int32)) M
def fX11_keyAt_52 (k97 : Int32 → Int32 → Int32 → Int32 → Int32 → eM → Option (Int32 × eM)) : Nat → Int32 → Int32 → Int32 → Int32 → Int32 → Int32 → Int32 → eM → Option (Int32 × eM)
  | 0, _, _, _, _, _, _, _, _ => none
  | n + 1, x1, x2, x3, x4, x5, x6, x7, M => if x2 ≤ x7 then (k97 x1 x2 x3 x5 x6 M) else (if x6 = 0 then (k97 x1 x2 x3 x5 x6 M) else (ea_ck (ea_tck 10 (x4 + x7)) (ea_ci (fX11_byteAt (x1 + x7) M) (fun r5 M6 => if (ea_tch 10 (x4 + x7)) = r5 then (fX11_keyAt_89 (fX11_keyAt_52 k97 n) x1 x2 x3 x4 x5 x7 (1 : Int32) M6) else (fX11_keyAt_89 (fX11_keyAt_52 k97 n) x1 x2 x3 x4 x5 x7 (0 : Int32) M6)))))
def fX11_keyAt_113 (k8 : Int32 → Int32 → Int32 → Int32 → Int32 → eM → Option (Int32 × eM)) (x1 : Int32) (x2 : Int32) (x3 : Int32) (x4 : Int32) (x5 : Int32) (M : eM) : Option (Int32 × eM) := k8 x1 x2 x3 x4 (x5 + (1 : Int32)) M
def fX11_keyAt_97 (k8 : Int32 → Int32 → Int32 → Int32 → Int32 → eM → Option (Int32 × eM)) (x1 : Int32) (x2 : Int32) (x3 : Int32) (x5 : Int32) (x6 : Int32) (M : eM) : Option (Int32 × eM) := if x6 = 0 then (fX11_keyAt_113 k8 x1 x2 (x3 + (1 : Int32)) (x5 + (1 : Int32)) x5 M) else (some (x3, M))
def fX11_keyAt_47 (k8 : Int32 → Int32 → Int32 → Int32 → Int32 → eM → Option (Int32 × eM)) (x1 : Int32) (x2 : Int32) (x3 : Int32) (x4 : Int32) (x5 : Int32) (t0 : Int32) (M : eM) : Option (Int32 × eM) := fX11_keyAt_52 (fX11_keyAt_97 k8) ea_N x1 x2 x3 x4 x5 t0 (0 : Int32) M
def fX11_keyAt_8 : Nat → Int32 → Int32 → Int32 → Int32 → Int32 → eM → Option (Int32 × eM)
  | 0, _, _, _, _, _, _ => none
  | n + 1, x1, x2, x3, x4, x5, M => if (ea_tlen 10) ≤ x5 then (some ((-1 : Int32), M)) else (ea_ck (ea_tck 10 x5) (if (ea_tch 10 x5) = (32 : Int32) then (if (x5 - x4) = x2 then (fX11_keyAt_47 (fX11_keyAt_8 n) x1 x2 x3 x4 x5 (1 : Int32) M) else (fX11_keyAt_47 (fX11_keyAt_8 n) x1 x2 x3 x4 x5 (0 : Int32) M)) else (fX11_keyAt_113 (fX11_keyAt_8 n) x1 x2 x3 x4 x5 M)))
def fX11_keyAt_0 (x1 : Int32) (x2 : Int32) (M : eM) : Option (Int32 × eM) := fX11_keyAt_8 ea_N x1 x2 (0 : Int32) (0 : Int32) (0 : Int32) M
def fX11_keyAt (x1 : Int32) (x2 : Int32) (M : eM) : Option (Int32 × eM) := fX11_keyAt_0 x1 x2 M
section SX11_keyAt
variable {p : Program} {l : Launch} {e : Env} {s : State} {m : MethodId} {args : Array Value} {below : List Frame} {meth : Method} {cd : Code} {E : eE} {ids : List Nat} {res : Int32 × eM}
set_option maxHeartbeats 4000000 in
set_option maxRecDepth 20000 in
theorem wX11_keyAt_89 (C : ea_C p s m args meth cd cX11_keyAt 8 (some .int) RX11) (hY : ea_Y ids) {k52 : Int32 → Int32 → Int32 → Int32 → Int32 → Int32 → Int32 → eM → Option (Int32 × eM)} (hk52 : ∀ (x1 : Int32) (x2 : Int32) (x3 : Int32) (x4 : Int32) (x5 : Int32) (x6 : Int32) (x7 : Int32) (M : eM) (H : Heap) (locs : List Loc) (ls : Array Slot), k52 x1 x2 x3 x4 x5 x6 x7 M = some res → ea_w E ids M s H locs → lv_has ls 8 [(0, .ref (E.1 100)), (1, .int x1), (2, .int x2), (3, .int x3), (4, .int x4), (5, .int x5), (6, .int x6), (7, .int x7)] → W p l e (ea_rm 4 85) s m args below meth cd H locs 0 0 (MQ below (ea_Qi E ids res) args s 0 0 (ea_Ad E ids)) (F0 m 52 ls [])) : ∀ (x1 : Int32) (x2 : Int32) (x3 : Int32) (x4 : Int32) (x5 : Int32) (x7 : Int32) (t0 : Int32) (M : eM) (H : Heap) (locs : List Loc) (ls : Array Slot), fX11_keyAt_89 k52 x1 x2 x3 x4 x5 x7 t0 M = some res → ea_w E ids M s H locs → lv_has ls 8 [(0, .ref (E.1 100)), (1, .int x1), (2, .int x2), (3, .int x3), (4, .int x4), (5, .int x5), (7, .int x7)] → W p l e (ea_rm 4 85) s m args below meth cd H locs 0 0 (MQ below (ea_Qi E ids res) args s 0 0 (ea_Ad E ids)) (F0 m 89 ls [.int t0]) := by
  intro x1 x2 x3 x4 x5 x7 t0 M H locs ls hf  hw hl
  replace hf := (fX11_keyAt_89.eq_1 ..).symm.trans hf
  refine lv_istore (lv' := [(6, .int t0), (0, .ref (E.1 100)), (1, .int x1), (2, .int x2), (3, .int x3), (4, .int x4), (5, .int x5), (7, .int x7)]) C.1 C.2.1 dX11_keyAt_89 hl (by decide) rfl (fun ls hl => ?_)
  refine lv_iinc (v := x7 + (1 : Int32)) (lv' := [(7, .int (x7 + (1 : Int32))), (6, .int t0), (0, .ref (E.1 100)), (1, .int x1), (2, .int x2), (3, .int x3), (4, .int x4), (5, .int x5)]) C.1 C.2.1 dX11_keyAt_91 hl (k := 7) rfl rfl (by decide) rfl (fun ls hl => ?_)
  refine lv_goto (tgt := 52) C.1 C.2.1 dX11_keyAt_94 (by decide) ?_
  exact hk52 _ _ _ _ _ _ _ _ _ _ _ hf hw (lv_sub hl [2, 3, 4, 5, 6, 7, 1, 0] rfl)
set_option maxHeartbeats 4000000 in
set_option maxRecDepth 20000 in
theorem wX11_keyAt_52 (C : ea_C p s m args meth cd cX11_keyAt 8 (some .int) RX11) (hY : ea_Y ids) {k97 : Int32 → Int32 → Int32 → Int32 → Int32 → eM → Option (Int32 × eM)} (hk97 : ∀ (x1 : Int32) (x2 : Int32) (x3 : Int32) (x5 : Int32) (x6 : Int32) (M : eM) (H : Heap) (locs : List Loc) (ls : Array Slot), k97 x1 x2 x3 x5 x6 M = some res → ea_w E ids M s H locs → lv_has ls 8 [(0, .ref (E.1 100)), (1, .int x1), (2, .int x2), (3, .int x3), (5, .int x5), (6, .int x6)] → W p l e (ea_rm 4 85) s m args below meth cd H locs 0 0 (MQ below (ea_Qi E ids res) args s 0 0 (ea_Ad E ids)) (F0 m 97 ls [])) : ∀ (n : Nat) (x1 : Int32) (x2 : Int32) (x3 : Int32) (x4 : Int32) (x5 : Int32) (x6 : Int32) (x7 : Int32) (M : eM) (H : Heap) (locs : List Loc) (ls : Array Slot), fX11_keyAt_52 k97 n x1 x2 x3 x4 x5 x6 x7 M = some res → ea_w E ids M s H locs → lv_has ls 8 [(0, .ref (E.1 100)), (1, .int x1), (2, .int x2), (3, .int x3), (4, .int x4), (5, .int x5), (6, .int x6), (7, .int x7)] → W p l e (ea_rm 4 85) s m args below meth cd H locs 0 0 (MQ below (ea_Qi E ids res) args s 0 0 (ea_Ad E ids)) (F0 m 52 ls []) := by
  intro n
  induction n with
  | zero => intro x1 x2 x3 x4 x5 x6 x7 M H locs ls hf; cases hf
  | succ n ih =>
    intro x1 x2 x3 x4 x5 x6 x7 M H locs ls hf  hw hl
    replace hf := (fX11_keyAt_52.eq_2 ..).symm.trans hf
    refine lv_iload C.1 C.2.1 dX11_keyAt_52 (lv_at hl 7 rfl) ?_
    refine lv_iload_n C.1 C.2.1 dX11_keyAt_54 rfl (lv_at hl 2 rfl) ?_
    refine lv_icmp_ge (tgt := 97) C.1 C.2.1 dX11_keyAt_55 (by decide) (fun hc1 => ?_) (fun hc1 => ?_)
    · replace hf := ea_if_t hc1 hf
      exact hk97 _ _ _ _ _ _ _ _ _ hf hw (lv_sub hl [0, 1, 2, 3, 5, 6] rfl)
    · replace hf := ea_if_f hc1 hf
      refine lv_iload C.1 C.2.1 dX11_keyAt_58 (lv_at hl 6 rfl) ?_
      refine lv_if_eq (tgt := 97) C.1 C.2.1 dX11_keyAt_60 (by decide) (fun hc2 => ?_) (fun hc2 => ?_)
      · replace hf := ea_if_t hc2 hf
        exact hk97 _ _ _ _ _ _ _ _ _ hf hw (lv_sub hl [0, 1, 2, 3, 5, 6] rfl)
      · replace hf := ea_if_f hc2 hf
        refine va_ldcS C.1 C.2.1 C.2.2.2.1 hw.2.2.2.2.2.2.2.2.2.2.2.2.2.2.2.2.2.2.2.2.2 dX11_keyAt_63 ?_
        refine lv_iload C.1 C.2.1 dX11_keyAt_65 (lv_at hl 4 rfl) ?_
        refine lv_iload C.1 C.2.1 dX11_keyAt_67 (lv_at hl 7 rfl) ?_
        refine lv_iadd C.1 C.2.1 dX11_keyAt_69 ?_
        obtain ⟨hc3, hf⟩ := ea_ck_s hf
        refine ea_runi2 hw (ea_runT (n := 1) C hw (i := 10) (by decide) (As := [.int (x4 + x7)]) (rest := []) (mJ0ch (i := 10) (by decide) hc3) wc_J0_charAt_5068e wi_RJ0 wl_X11_124 wv_J0_charAt_5068e wz_J0_charAt_5068e (by decide +kernel) (by decide) rfl hl.1 rfl (Nat.le_of_ble_eq_true rfl) dX11_keyAt_70 ⟨Nat.le_refl _, Nat.le_refl _⟩) (fun H locs hw => ?_)
        refine lv_aload_n C.1 C.2.1 dX11_keyAt_73 rfl (lv_at hl 0 rfl) ?_
        refine lv_iload_n C.1 C.2.1 dX11_keyAt_74 rfl (lv_at hl 1 rfl) ?_
        refine lv_iload C.1 C.2.1 dX11_keyAt_75 (lv_at hl 7 rfl) ?_
        refine lv_iadd C.1 C.2.1 dX11_keyAt_77 ?_
        obtain ⟨r5, M6, he4, hf⟩ := ea_ci_s hf
        refine ea_runi2 hw (cl_X11_128 C hw (hY 100 11 rfl) (As := [.int (x1 + x7)]) (rest := [.int (ea_tch 10 (x4 + x7))]) (mX11_byteAt (l := l) (E := E) (ids := ids) hY he4) (by decide) rfl hl.1 rfl (Nat.le_of_ble_eq_true rfl) dX11_keyAt_78 ⟨Nat.le_refl _, Nat.le_refl _⟩) (fun H locs hw => ?_)
        refine lv_icmp_ne (tgt := 88) C.1 C.2.1 dX11_keyAt_81 (by decide) (fun hc7 => ?_) (fun hc7 => ?_)
        · replace hf := ea_if_f hc7 hf
          refine lv_iconst (v := 0) C.1 C.2.1 dX11_keyAt_88 (by decide) ?_
          exact wX11_keyAt_89 C hY ih _ _ _ _ _ _ _ _ _ _ _ hf hw (lv_sub hl [0, 1, 2, 3, 4, 5, 7] rfl)
        · replace hf := ea_if_t hc7 hf
          refine lv_iconst (v := 1) C.1 C.2.1 dX11_keyAt_84 (by decide) ?_
          refine lv_goto (tgt := 89) C.1 C.2.1 dX11_keyAt_85 (by decide) ?_
          exact wX11_keyAt_89 C hY ih _ _ _ _ _ _ _ _ _ _ _ hf hw (lv_sub hl [0, 1, 2, 3, 4, 5, 7] rfl)
set_option maxHeartbeats 4000000 in
set_option maxRecDepth 20000 in
theorem wX11_keyAt_113 (C : ea_C p s m args meth cd cX11_keyAt 8 (some .int) RX11) (hY : ea_Y ids) {k8 : Int32 → Int32 → Int32 → Int32 → Int32 → eM → Option (Int32 × eM)} (hk8 : ∀ (x1 : Int32) (x2 : Int32) (x3 : Int32) (x4 : Int32) (x5 : Int32) (M : eM) (H : Heap) (locs : List Loc) (ls : Array Slot), k8 x1 x2 x3 x4 x5 M = some res → ea_w E ids M s H locs → lv_has ls 8 [(0, .ref (E.1 100)), (1, .int x1), (2, .int x2), (3, .int x3), (4, .int x4), (5, .int x5)] → W p l e (ea_rm 4 85) s m args below meth cd H locs 0 0 (MQ below (ea_Qi E ids res) args s 0 0 (ea_Ad E ids)) (F0 m 8 ls [])) : ∀ (x1 : Int32) (x2 : Int32) (x3 : Int32) (x4 : Int32) (x5 : Int32) (M : eM) (H : Heap) (locs : List Loc) (ls : Array Slot), fX11_keyAt_113 k8 x1 x2 x3 x4 x5 M = some res → ea_w E ids M s H locs → lv_has ls 8 [(0, .ref (E.1 100)), (1, .int x1), (2, .int x2), (3, .int x3), (4, .int x4), (5, .int x5)] → W p l e (ea_rm 4 85) s m args below meth cd H locs 0 0 (MQ below (ea_Qi E ids res) args s 0 0 (ea_Ad E ids)) (F0 m 113 ls []) := by
  intro x1 x2 x3 x4 x5 M H locs ls hf  hw hl
  replace hf := (fX11_keyAt_113.eq_1 ..).symm.trans hf
  refine lv_iinc (v := x5 + (1 : Int32)) (lv' := [(5, .int (x5 + (1 : Int32))), (0, .ref (E.1 100)), (1, .int x1), (2, .int x2), (3, .int x3), (4, .int x4)]) C.1 C.2.1 dX11_keyAt_113 hl (k := 5) rfl rfl (by decide) rfl (fun ls hl => ?_)
  refine lv_goto (tgt := 8) C.1 C.2.1 dX11_keyAt_116 (by decide) ?_
  exact hk8 _ _ _ _ _ _ _ _ _ hf hw (lv_sub hl [1, 2, 3, 4, 5, 0] rfl)
set_option maxHeartbeats 4000000 in
set_option maxRecDepth 20000 in
theorem wX11_keyAt_97 (C : ea_C p s m args meth cd cX11_keyAt 8 (some .int) RX11) (hY : ea_Y ids) {k8 : Int32 → Int32 → Int32 → Int32 → Int32 → eM → Option (Int32 × eM)} (hk8 : ∀ (x1 : Int32) (x2 : Int32) (x3 : Int32) (x4 : Int32) (x5 : Int32) (M : eM) (H : Heap) (locs : List Loc) (ls : Array Slot), k8 x1 x2 x3 x4 x5 M = some res → ea_w E ids M s H locs → lv_has ls 8 [(0, .ref (E.1 100)), (1, .int x1), (2, .int x2), (3, .int x3), (4, .int x4), (5, .int x5)] → W p l e (ea_rm 4 85) s m args below meth cd H locs 0 0 (MQ below (ea_Qi E ids res) args s 0 0 (ea_Ad E ids)) (F0 m 8 ls [])) : ∀ (x1 : Int32) (x2 : Int32) (x3 : Int32) (x5 : Int32) (x6 : Int32) (M : eM) (H : Heap) (locs : List Loc) (ls : Array Slot), fX11_keyAt_97 k8 x1 x2 x3 x5 x6 M = some res → ea_w E ids M s H locs → lv_has ls 8 [(0, .ref (E.1 100)), (1, .int x1), (2, .int x2), (3, .int x3), (5, .int x5), (6, .int x6)] → W p l e (ea_rm 4 85) s m args below meth cd H locs 0 0 (MQ below (ea_Qi E ids res) args s 0 0 (ea_Ad E ids)) (F0 m 97 ls []) := by
  intro x1 x2 x3 x5 x6 M H locs ls hf  hw hl
  replace hf := (fX11_keyAt_97.eq_1 ..).symm.trans hf
  refine lv_iload C.1 C.2.1 dX11_keyAt_97 (lv_at hl 5 rfl) ?_
  refine lv_if_eq (tgt := 104) C.1 C.2.1 dX11_keyAt_99 (by decide) (fun hc1 => ?_) (fun hc1 => ?_)
  · replace hf := ea_if_t hc1 hf
    refine lv_iinc (v := x3 + (1 : Int32)) (lv' := [(3, .int (x3 + (1 : Int32))), (0, .ref (E.1 100)), (1, .int x1), (2, .int x2), (5, .int x5), (6, .int x6)]) C.1 C.2.1 dX11_keyAt_104 hl (k := 3) rfl rfl (by decide) rfl (fun ls hl => ?_)
    refine lv_iload C.1 C.2.1 dX11_keyAt_107 (lv_at hl 4 rfl) ?_
    refine lv_iconst (v := 1) C.1 C.2.1 dX11_keyAt_109 (by decide) ?_
    refine lv_iadd C.1 C.2.1 dX11_keyAt_110 ?_
    refine lv_istore (lv' := [(4, .int (x5 + (1 : Int32))), (3, .int (x3 + (1 : Int32))), (0, .ref (E.1 100)), (1, .int x1), (2, .int x2), (5, .int x5), (6, .int x6)]) C.1 C.2.1 dX11_keyAt_111 hl (by decide) rfl (fun ls hl => ?_)
    exact wX11_keyAt_113 C hY hk8 _ _ _ _ _ _ _ _ _ hf hw (lv_sub hl [2, 3, 4, 1, 0, 5] rfl)
  · replace hf := ea_if_f hc1 hf
    refine lv_iload_n C.1 C.2.1 dX11_keyAt_102 rfl (lv_at hl 3 rfl) ?_
    exact ea_iret C hw hf dX11_keyAt_103
set_option maxHeartbeats 4000000 in
set_option maxRecDepth 20000 in
theorem wX11_keyAt_47 (C : ea_C p s m args meth cd cX11_keyAt 8 (some .int) RX11) (hY : ea_Y ids) {k8 : Int32 → Int32 → Int32 → Int32 → Int32 → eM → Option (Int32 × eM)} (hk8 : ∀ (x1 : Int32) (x2 : Int32) (x3 : Int32) (x4 : Int32) (x5 : Int32) (M : eM) (H : Heap) (locs : List Loc) (ls : Array Slot), k8 x1 x2 x3 x4 x5 M = some res → ea_w E ids M s H locs → lv_has ls 8 [(0, .ref (E.1 100)), (1, .int x1), (2, .int x2), (3, .int x3), (4, .int x4), (5, .int x5)] → W p l e (ea_rm 4 85) s m args below meth cd H locs 0 0 (MQ below (ea_Qi E ids res) args s 0 0 (ea_Ad E ids)) (F0 m 8 ls [])) : ∀ (x1 : Int32) (x2 : Int32) (x3 : Int32) (x4 : Int32) (x5 : Int32) (t0 : Int32) (M : eM) (H : Heap) (locs : List Loc) (ls : Array Slot), fX11_keyAt_47 k8 x1 x2 x3 x4 x5 t0 M = some res → ea_w E ids M s H locs → lv_has ls 8 [(0, .ref (E.1 100)), (1, .int x1), (2, .int x2), (3, .int x3), (4, .int x4), (5, .int x5)] → W p l e (ea_rm 4 85) s m args below meth cd H locs 0 0 (MQ below (ea_Qi E ids res) args s 0 0 (ea_Ad E ids)) (F0 m 47 ls [.int t0]) := by
  intro x1 x2 x3 x4 x5 t0 M H locs ls hf  hw hl
  replace hf := (fX11_keyAt_47.eq_1 ..).symm.trans hf
  refine lv_istore (lv' := [(6, .int t0), (0, .ref (E.1 100)), (1, .int x1), (2, .int x2), (3, .int x3), (4, .int x4), (5, .int x5)]) C.1 C.2.1 dX11_keyAt_47 hl (by decide) rfl (fun ls hl => ?_)
  refine lv_iconst (v := 0) C.1 C.2.1 dX11_keyAt_49 (by decide) ?_
  refine lv_istore (lv' := [(7, .int (0 : Int32)), (6, .int t0), (0, .ref (E.1 100)), (1, .int x1), (2, .int x2), (3, .int x3), (4, .int x4), (5, .int x5)]) C.1 C.2.1 dX11_keyAt_50 hl (by decide) rfl (fun ls hl => ?_)
  exact wX11_keyAt_52 C hY (wX11_keyAt_97 C hY hk8) ea_N _ _ _ _ _ _ _ _ _ _ _ hf hw (lv_sub hl [2, 3, 4, 5, 6, 7, 1, 0] rfl)
set_option maxHeartbeats 4000000 in
set_option maxRecDepth 20000 in
theorem wX11_keyAt_8 (C : ea_C p s m args meth cd cX11_keyAt 8 (some .int) RX11) (hY : ea_Y ids) : ∀ (n : Nat) (x1 : Int32) (x2 : Int32) (x3 : Int32) (x4 : Int32) (x5 : Int32) (M : eM) (H : Heap) (locs : List Loc) (ls : Array Slot), fX11_keyAt_8 n x1 x2 x3 x4 x5 M = some res → ea_w E ids M s H locs → lv_has ls 8 [(0, .ref (E.1 100)), (1, .int x1), (2, .int x2), (3, .int x3), (4, .int x4), (5, .int x5)] → W p l e (ea_rm 4 85) s m args below meth cd H locs 0 0 (MQ below (ea_Qi E ids res) args s 0 0 (ea_Ad E ids)) (F0 m 8 ls []) := by
  intro n
  induction n with
  | zero => intro x1 x2 x3 x4 x5 M H locs ls hf; cases hf
  | succ n ih =>
    intro x1 x2 x3 x4 x5 M H locs ls hf  hw hl
    replace hf := (fX11_keyAt_8.eq_2 ..).symm.trans hf
    refine lv_iload C.1 C.2.1 dX11_keyAt_8 (lv_at hl 5 rfl) ?_
    refine va_ldcS C.1 C.2.1 C.2.2.2.1 hw.2.2.2.2.2.2.2.2.2.2.2.2.2.2.2.2.2.2.2.2.2 dX11_keyAt_10 ?_
    refine ea_runi2 hw (ea_runT (n := 0) C hw (i := 10) (by decide) (As := []) (rest := [.int x5]) (mJ0len (i := 10) (by decide)) wc_J0_length_8abf5 wi_RJ0 wl_X11_118 wv_J0_length_8abf5 wz_J0_length_8abf5 (by decide +kernel) (by decide) rfl hl.1 rfl (Nat.le_of_ble_eq_true rfl) dX11_keyAt_12 ⟨Nat.le_refl _, Nat.le_refl _⟩) (fun H locs hw => ?_)
    refine lv_icmp_ge (tgt := 119) C.1 C.2.1 dX11_keyAt_15 (by decide) (fun hc1 => ?_) (fun hc1 => ?_)
    · replace hf := ea_if_t hc1 hf
      refine lv_iconst (v := (-1 : Int32)) C.1 C.2.1 dX11_keyAt_119 (by decide) ?_
      exact ea_iret C hw hf dX11_keyAt_120
    · replace hf := ea_if_f hc1 hf
      refine va_ldcS C.1 C.2.1 C.2.2.2.1 hw.2.2.2.2.2.2.2.2.2.2.2.2.2.2.2.2.2.2.2.2.2 dX11_keyAt_18 ?_
      refine lv_iload C.1 C.2.1 dX11_keyAt_20 (lv_at hl 5 rfl) ?_
      obtain ⟨hc2, hf⟩ := ea_ck_s hf
      refine ea_runi2 hw (ea_runT (n := 1) C hw (i := 10) (by decide) (As := [.int x5]) (rest := []) (mJ0ch (i := 10) (by decide) hc2) wc_J0_charAt_5068e wi_RJ0 wl_X11_124 wv_J0_charAt_5068e wz_J0_charAt_5068e (by decide +kernel) (by decide) rfl hl.1 rfl (Nat.le_of_ble_eq_true rfl) dX11_keyAt_22 ⟨Nat.le_refl _, Nat.le_refl _⟩) (fun H locs hw => ?_)
      refine lv_bipush (v := 32) C.1 C.2.1 dX11_keyAt_25 (by decide) ?_
      refine lv_icmp_eq (tgt := 33) C.1 C.2.1 dX11_keyAt_27 (by decide) (fun hc3 => ?_) (fun hc3 => ?_)
      · replace hf := ea_if_t hc3 hf
        refine lv_iload C.1 C.2.1 dX11_keyAt_33 (lv_at hl 5 rfl) ?_
        refine lv_iload C.1 C.2.1 dX11_keyAt_35 (lv_at hl 4 rfl) ?_
        refine lv_isub C.1 C.2.1 dX11_keyAt_37 ?_
        refine lv_iload_n C.1 C.2.1 dX11_keyAt_38 rfl (lv_at hl 2 rfl) ?_
        refine lv_icmp_ne (tgt := 46) C.1 C.2.1 dX11_keyAt_39 (by decide) (fun hc4 => ?_) (fun hc4 => ?_)
        · replace hf := ea_if_f hc4 hf
          refine lv_iconst (v := 0) C.1 C.2.1 dX11_keyAt_46 (by decide) ?_
          exact wX11_keyAt_47 C hY ih _ _ _ _ _ _ _ _ _ _ hf hw (lv_sub hl [0, 1, 2, 3, 4, 5] rfl)
        · replace hf := ea_if_t hc4 hf
          refine lv_iconst (v := 1) C.1 C.2.1 dX11_keyAt_42 (by decide) ?_
          refine lv_goto (tgt := 47) C.1 C.2.1 dX11_keyAt_43 (by decide) ?_
          exact wX11_keyAt_47 C hY ih _ _ _ _ _ _ _ _ _ _ hf hw (lv_sub hl [0, 1, 2, 3, 4, 5] rfl)
      · replace hf := ea_if_f hc3 hf
        refine lv_goto (tgt := 113) C.1 C.2.1 dX11_keyAt_30 (by decide) ?_
        exact wX11_keyAt_113 C hY ih _ _ _ _ _ _ _ _ _ hf hw (lv_sub hl [0, 1, 2, 3, 4, 5] rfl)
set_option maxHeartbeats 4000000 in
set_option maxRecDepth 20000 in
theorem wX11_keyAt_0 (C : ea_C p s m args meth cd cX11_keyAt 8 (some .int) RX11) (hY : ea_Y ids) : ∀ (x1 : Int32) (x2 : Int32) (M : eM) (H : Heap) (locs : List Loc) (ls : Array Slot), fX11_keyAt_0 x1 x2 M = some res → ea_w E ids M s H locs → lv_has ls 8 [(0, .ref (E.1 100)), (1, .int x1), (2, .int x2)] → W p l e (ea_rm 4 85) s m args below meth cd H locs 0 0 (MQ below (ea_Qi E ids res) args s 0 0 (ea_Ad E ids)) (F0 m 0 ls []) := by
  intro x1 x2 M H locs ls hf  hw hl
  replace hf := (fX11_keyAt_0.eq_1 ..).symm.trans hf
  refine lv_iconst (v := 0) C.1 C.2.1 dX11_keyAt_0 (by decide) ?_
  refine lv_istore_n (lv' := [(3, .int (0 : Int32)), (0, .ref (E.1 100)), (1, .int x1), (2, .int x2)]) C.1 C.2.1 dX11_keyAt_1 rfl hl (by decide) rfl (fun ls hl => ?_)
  refine lv_iconst (v := 0) C.1 C.2.1 dX11_keyAt_2 (by decide) ?_
  refine lv_istore (lv' := [(4, .int (0 : Int32)), (3, .int (0 : Int32)), (0, .ref (E.1 100)), (1, .int x1), (2, .int x2)]) C.1 C.2.1 dX11_keyAt_3 hl (by decide) rfl (fun ls hl => ?_)
  refine lv_iconst (v := 0) C.1 C.2.1 dX11_keyAt_5 (by decide) ?_
  refine lv_istore (lv' := [(5, .int (0 : Int32)), (4, .int (0 : Int32)), (3, .int (0 : Int32)), (0, .ref (E.1 100)), (1, .int x1), (2, .int x2)]) C.1 C.2.1 dX11_keyAt_6 hl (by decide) rfl (fun ls hl => ?_)
  exact wX11_keyAt_8 C hY ea_N _ _ _ _ _ _ _ _ _ hf hw (lv_sub hl [3, 4, 5, 2, 1, 0] rfl)
set_option maxHeartbeats 4000000 in
set_option maxRecDepth 20000 in
theorem mX11_keyAt {l : Launch} {E : eE} {ids : List Nat} (hY : ea_Y ids) {x1 : Int32} {x2 : Int32} {M : eM} {res : Int32 × eM} (hf : fX11_keyAt x1 x2 M = some res) : ea_Mi l yX11_keyAt cX11_keyAt 8 (some .int) 4 85 E ids [.ref (E.1 100), .int x1, .int x2] M res := by
  refine ea_goi (by decide) (Nat.le_of_ble_eq_true rfl) wc_X11_keyAt ?_
  intro p e s m below meth cd ls C hw hl
  exact wX11_keyAt_0 C hY _ _ _ _ _ _ hf hw hl
end SX11_keyAt

def fX11_scan_25 (k5 : Int32 → eM → Option (eM)) (x1 : Int32) (M : eM) : Option (eM) := k5 (x1 + (1 : Int32)) M
def fX11_scan_5 (k31 : Int32 → eM → Option (eM)) : Nat → Int32 → eM → Option (eM)
  | 0, _, _ => none
  | n + 1, x1, M => ea_ci (fX11_byteAt x1 M) (fun r2 M3 => if r2 = (32 : Int32) then (fX11_scan_25 (fX11_scan_5 k31 n) x1 M3) else (ea_ci (fX11_byteAt x1 M3) (fun r6 M7 => if r6 = (10 : Int32) then (fX11_scan_25 (fX11_scan_5 k31 n) x1 M7) else (k31 x1 M7))))
def fX11_scan_124 (k80 : Int32 → Int32 → eM → Option (eM)) (x1 : Int32) (x3 : Int32) (M : eM) : Option (eM) := k80 x1 (x3 + (1 : Int32)) M
def fX11_scan_80 (k130 : Int32 → Int32 → eM → Option (eM)) : Nat → Int32 → Int32 → eM → Option (eM)
  | 0, _, _, _ => none
  | n + 1, x1, x3, M => ea_ci (fX11_byteAt x3 M) (fun r2 M3 => ea_ci (fX11_isSmall r2 M3) (fun r5 M6 => if r5 = 0 then (k130 x1 x3 M6) else (if (8 : Int32) ≤ (x3 - x1) then (fX11_scan_124 (fX11_scan_80 k130 n) x1 x3 M6) else (ea_ci (fX11_byteAt x3 M6) (fun r10 M11 => fX11_scan_124 (fX11_scan_80 k130 n) x1 x3 (ea_pL M11 100 10 (((((32 : Int64) * (M6.2.1 100 10)) + r10.toInt64) - (97 : Int64)) + (1 : Int64))))))))
def fX11_scan_270 (x3 : Int32) (M : eM) : Option (eM) := some (ea_pI M 100 6 x3)
def fX11_scan_144 (x1 : Int32) (x3 : Int32) (t0 : Int32) (M : eM) : Option (eM) := if ((ea_pI M 100 3 t0).1 100 3) = (1 : Int32) then (ea_ci (fX11_keyAt x1 (x3 - x1) (ea_pI M 100 3 t0)) (fun r3 M4 => fX11_scan_270 x3 (ea_pI M4 100 4 r3))) else (fX11_scan_270 x3 (ea_pI M 100 3 t0))
def fX11_scan_130 (x1 : Int32) (x3 : Int32) (M : eM) : Option (eM) := if (x3 - x1) ≤ (8 : Int32) then (fX11_scan_144 x1 x3 (1 : Int32) M) else (fX11_scan_144 x1 x3 (0 : Int32) M)
def fX11_scan_227 (k185 : Int32 → Int32 → eM → Option (eM)) (x1 : Int32) (x3 : Int32) (t0 : Int32) (M : eM) : Option (eM) := k185 x1 (x3 + (1 : Int32)) (ea_pI M 100 7 t0)
def fX11_scan_185 (k236 : Int32 → Int32 → eM → Option (eM)) : Nat → Int32 → Int32 → eM → Option (eM)
  | 0, _, _, _ => none
  | n + 1, x1, x3, M => ea_ci (fX11_byteAt x3 M) (fun r2 M3 => ea_ci (fX11_isDigit r2 M3) (fun r5 M6 => if r5 = 0 then (k236 x1 x3 M6) else (if (4 : Int32) ≤ (x3 - x1) then (fX11_scan_227 (fX11_scan_185 k236 n) x1 x3 (M6.1 100 7) M6) else (ea_ci (fX11_byteAt x3 M6) (fun r10 M11 => fX11_scan_227 (fX11_scan_185 k236 n) x1 x3 ((((10 : Int32) * (M6.1 100 7)) + r10) - (48 : Int32)) M11)))))
def fX11_scan_249 (x3 : Int32) (t0 : Int32) (M : eM) : Option (eM) := fX11_scan_270 x3 (ea_pI M 100 3 t0)
def fX11_scan_236 (x1 : Int32) (x3 : Int32) (M : eM) : Option (eM) := if (x3 - x1) ≤ (4 : Int32) then (fX11_scan_249 x3 (2 : Int32) M) else (fX11_scan_249 x3 (0 : Int32) M)
def fX11_scan_267 (x3 : Int32) (t0 : Int32) (M : eM) : Option (eM) := fX11_scan_270 x3 (ea_pI M 100 3 t0)
def fX11_scan_31 (x1 : Int32) (M : eM) : Option (eM) := ea_ci (fX11_byteAt x1 (ea_pI M 100 5 x1)) (fun r2 M3 => if r2 = (-1 : Int32) then (fX11_scan_270 x1 (ea_pI (ea_pI M3 100 4 (-1 : Int32)) 100 3 (4 : Int32))) else (ea_ci (fX11_isSmall r2 (ea_pI M3 100 4 (-1 : Int32))) (fun r6 M7 => if r6 = 0 then (ea_ci (fX11_isDigit r2 M7) (fun r10 M11 => if r10 = 0 then (if r2 = (59 : Int32) then (fX11_scan_267 (x1 + (1 : Int32)) (3 : Int32) M11) else (fX11_scan_267 (x1 + (1 : Int32)) (0 : Int32) M11)) else (fX11_scan_185 (fX11_scan_236) ea_N x1 (x1 + (1 : Int32)) (ea_pI M11 100 7 (r2 - (48 : Int32)))))) else (fX11_scan_80 (fX11_scan_130) ea_N x1 x1 (ea_pL M7 100 10 (0 : Int64))))))
def fX11_scan_0 (M : eM) : Option (eM) := fX11_scan_5 (fX11_scan_31) ea_N (M.1 100 6) M
def fX11_scan (M : eM) : Option (eM) := fX11_scan_0 M
section SX11_scan
variable {p : Program} {l : Launch} {e : Env} {s : State} {m : MethodId} {args : Array Value} {below : List Frame} {meth : Method} {cd : Code} {E : eE} {ids : List Nat} {res : eM}
set_option maxHeartbeats 4000000 in
set_option maxRecDepth 20000 in
theorem wX11_scan_25 (C : ea_C p s m args meth cd cX11_scan 4 none RX11) (hY : ea_Y ids) {k5 : Int32 → eM → Option (eM)} (hk5 : ∀ (x1 : Int32) (M : eM) (H : Heap) (locs : List Loc) (ls : Array Slot), k5 x1 M = some res → ea_w E ids M s H locs → lv_has ls 4 [(0, .ref (E.1 100)), (1, .int x1)] → W p l e (ea_rm 5 112) s m args below meth cd H locs 0 0 (MQ below (ea_Qv E ids res) args s 0 0 (ea_Ad E ids)) (F0 m 5 ls [])) : ∀ (x1 : Int32) (M : eM) (H : Heap) (locs : List Loc) (ls : Array Slot), fX11_scan_25 k5 x1 M = some res → ea_w E ids M s H locs → lv_has ls 4 [(0, .ref (E.1 100)), (1, .int x1)] → W p l e (ea_rm 5 112) s m args below meth cd H locs 0 0 (MQ below (ea_Qv E ids res) args s 0 0 (ea_Ad E ids)) (F0 m 25 ls []) := by
  intro x1 M H locs ls hf  hw hl
  replace hf := (fX11_scan_25.eq_1 ..).symm.trans hf
  refine lv_iinc (v := x1 + (1 : Int32)) (lv' := [(1, .int (x1 + (1 : Int32))), (0, .ref (E.1 100))]) C.1 C.2.1 dX11_scan_25 hl (k := 1) rfl rfl (by decide) rfl (fun ls hl => ?_)
  refine lv_goto (tgt := 5) C.1 C.2.1 dX11_scan_28 (by decide) ?_
  exact hk5 _ _ _ _ _ hf hw (lv_sub hl [1, 0] rfl)
set_option maxHeartbeats 4000000 in
set_option maxRecDepth 20000 in
theorem wX11_scan_5 (C : ea_C p s m args meth cd cX11_scan 4 none RX11) (hY : ea_Y ids) {k31 : Int32 → eM → Option (eM)} (hk31 : ∀ (x1 : Int32) (M : eM) (H : Heap) (locs : List Loc) (ls : Array Slot), k31 x1 M = some res → ea_w E ids M s H locs → lv_has ls 4 [(0, .ref (E.1 100)), (1, .int x1)] → W p l e (ea_rm 5 112) s m args below meth cd H locs 0 0 (MQ below (ea_Qv E ids res) args s 0 0 (ea_Ad E ids)) (F0 m 31 ls [])) : ∀ (n : Nat) (x1 : Int32) (M : eM) (H : Heap) (locs : List Loc) (ls : Array Slot), fX11_scan_5 k31 n x1 M = some res → ea_w E ids M s H locs → lv_has ls 4 [(0, .ref (E.1 100)), (1, .int x1)] → W p l e (ea_rm 5 112) s m args below meth cd H locs 0 0 (MQ below (ea_Qv E ids res) args s 0 0 (ea_Ad E ids)) (F0 m 5 ls []) := by
  intro n
  induction n with
  | zero => intro x1 M H locs ls hf; cases hf
  | succ n ih =>
    intro x1 M H locs ls hf  hw hl
    replace hf := (fX11_scan_5.eq_2 ..).symm.trans hf
    refine lv_aload_n C.1 C.2.1 dX11_scan_5 rfl (lv_at hl 0 rfl) ?_
    refine lv_iload_n C.1 C.2.1 dX11_scan_6 rfl (lv_at hl 1 rfl) ?_
    obtain ⟨r2, M3, he1, hf⟩ := ea_ci_s hf
    refine ea_runi2 hw (cl_X11_128 C hw (hY 100 11 rfl) (As := [.int x1]) (rest := []) (mX11_byteAt (l := l) (E := E) (ids := ids) hY he1) (by decide) rfl hl.1 rfl (Nat.le_of_ble_eq_true rfl) dX11_scan_7 ⟨Nat.le_refl _, Nat.le_refl _⟩) (fun H locs hw => ?_)
    refine lv_bipush (v := 32) C.1 C.2.1 dX11_scan_10 (by decide) ?_
    refine lv_icmp_eq (tgt := 25) C.1 C.2.1 dX11_scan_12 (by decide) (fun hc4 => ?_) (fun hc4 => ?_)
    · replace hf := ea_if_t hc4 hf
      exact wX11_scan_25 C hY ih _ _ _ _ _ hf hw (lv_sub hl [0, 1] rfl)
    · replace hf := ea_if_f hc4 hf
      refine lv_aload_n C.1 C.2.1 dX11_scan_15 rfl (lv_at hl 0 rfl) ?_
      refine lv_iload_n C.1 C.2.1 dX11_scan_16 rfl (lv_at hl 1 rfl) ?_
      obtain ⟨r6, M7, he5, hf⟩ := ea_ci_s hf
      refine ea_runi2 hw (cl_X11_128 C hw (hY 100 11 rfl) (As := [.int x1]) (rest := []) (mX11_byteAt (l := l) (E := E) (ids := ids) hY he5) (by decide) rfl hl.1 rfl (Nat.le_of_ble_eq_true rfl) dX11_scan_17 ⟨Nat.le_refl _, Nat.le_refl _⟩) (fun H locs hw => ?_)
      refine lv_bipush (v := 10) C.1 C.2.1 dX11_scan_20 (by decide) ?_
      refine lv_icmp_ne (tgt := 31) C.1 C.2.1 dX11_scan_22 (by decide) (fun hc8 => ?_) (fun hc8 => ?_)
      · replace hf := ea_if_f hc8 hf
        exact hk31 _ _ _ _ _ hf hw (lv_sub hl [0, 1] rfl)
      · replace hf := ea_if_t hc8 hf
        exact wX11_scan_25 C hY ih _ _ _ _ _ hf hw (lv_sub hl [0, 1] rfl)
set_option maxHeartbeats 4000000 in
set_option maxRecDepth 20000 in
theorem wX11_scan_124 (C : ea_C p s m args meth cd cX11_scan 4 none RX11) (hY : ea_Y ids) {k80 : Int32 → Int32 → eM → Option (eM)} (hk80 : ∀ (x1 : Int32) (x3 : Int32) (M : eM) (H : Heap) (locs : List Loc) (ls : Array Slot), k80 x1 x3 M = some res → ea_w E ids M s H locs → lv_has ls 4 [(0, .ref (E.1 100)), (1, .int x1), (3, .int x3)] → W p l e (ea_rm 5 112) s m args below meth cd H locs 0 0 (MQ below (ea_Qv E ids res) args s 0 0 (ea_Ad E ids)) (F0 m 80 ls [])) : ∀ (x1 : Int32) (x3 : Int32) (M : eM) (H : Heap) (locs : List Loc) (ls : Array Slot), fX11_scan_124 k80 x1 x3 M = some res → ea_w E ids M s H locs → lv_has ls 4 [(0, .ref (E.1 100)), (1, .int x1), (3, .int x3)] → W p l e (ea_rm 5 112) s m args below meth cd H locs 0 0 (MQ below (ea_Qv E ids res) args s 0 0 (ea_Ad E ids)) (F0 m 124 ls []) := by
  intro x1 x3 M H locs ls hf  hw hl
  replace hf := (fX11_scan_124.eq_1 ..).symm.trans hf
  refine lv_iinc (v := x3 + (1 : Int32)) (lv' := [(3, .int (x3 + (1 : Int32))), (0, .ref (E.1 100)), (1, .int x1)]) C.1 C.2.1 dX11_scan_124 hl (k := 2) rfl rfl (by decide) rfl (fun ls hl => ?_)
  refine lv_goto (tgt := 80) C.1 C.2.1 dX11_scan_127 (by decide) ?_
  exact hk80 _ _ _ _ _ _ hf hw (lv_sub hl [1, 2, 0] rfl)
set_option maxHeartbeats 4000000 in
set_option maxRecDepth 20000 in
theorem wX11_scan_80 (C : ea_C p s m args meth cd cX11_scan 4 none RX11) (hY : ea_Y ids) {k130 : Int32 → Int32 → eM → Option (eM)} (hk130 : ∀ (x1 : Int32) (x3 : Int32) (M : eM) (H : Heap) (locs : List Loc) (ls : Array Slot), k130 x1 x3 M = some res → ea_w E ids M s H locs → lv_has ls 4 [(0, .ref (E.1 100)), (1, .int x1), (3, .int x3)] → W p l e (ea_rm 5 112) s m args below meth cd H locs 0 0 (MQ below (ea_Qv E ids res) args s 0 0 (ea_Ad E ids)) (F0 m 130 ls [])) : ∀ (n : Nat) (x1 : Int32) (x3 : Int32) (M : eM) (H : Heap) (locs : List Loc) (ls : Array Slot), fX11_scan_80 k130 n x1 x3 M = some res → ea_w E ids M s H locs → lv_has ls 4 [(0, .ref (E.1 100)), (1, .int x1), (3, .int x3)] → W p l e (ea_rm 5 112) s m args below meth cd H locs 0 0 (MQ below (ea_Qv E ids res) args s 0 0 (ea_Ad E ids)) (F0 m 80 ls []) := by
  intro n
  induction n with
  | zero => intro x1 x3 M H locs ls hf; cases hf
  | succ n ih =>
    intro x1 x3 M H locs ls hf  hw hl
    replace hf := (fX11_scan_80.eq_2 ..).symm.trans hf
    refine lv_aload_n C.1 C.2.1 dX11_scan_80 rfl (lv_at hl 0 rfl) ?_
    refine lv_iload_n C.1 C.2.1 dX11_scan_81 rfl (lv_at hl 2 rfl) ?_
    obtain ⟨r2, M3, he1, hf⟩ := ea_ci_s hf
    refine ea_runi2 hw (cl_X11_128 C hw (hY 100 11 rfl) (As := [.int x3]) (rest := []) (mX11_byteAt (l := l) (E := E) (ids := ids) hY he1) (by decide) rfl hl.1 rfl (Nat.le_of_ble_eq_true rfl) dX11_scan_82 ⟨Nat.le_refl _, Nat.le_refl _⟩) (fun H locs hw => ?_)
    obtain ⟨r5, M6, he4, hf⟩ := ea_ci_s hf
    refine ea_runi2 hw (cl_X11_144 C hw (As := [.int r2]) (rest := []) (mX11_isSmall (l := l) (E := E) (ids := ids) hY he4) (by decide) rfl hl.1 rfl (Nat.le_of_ble_eq_true rfl) dX11_scan_85 ⟨Nat.le_refl _, Nat.le_refl _⟩) (fun H locs hw => ?_)
    refine lv_if_eq (tgt := 130) C.1 C.2.1 dX11_scan_88 (by decide) (fun hc7 => ?_) (fun hc7 => ?_)
    · replace hf := ea_if_t hc7 hf
      exact hk130 _ _ _ _ _ _ hf hw (lv_sub hl [0, 1, 2] rfl)
    · replace hf := ea_if_f hc7 hf
      refine lv_iload_n C.1 C.2.1 dX11_scan_91 rfl (lv_at hl 2 rfl) ?_
      refine lv_iload_n C.1 C.2.1 dX11_scan_92 rfl (lv_at hl 1 rfl) ?_
      refine lv_isub C.1 C.2.1 dX11_scan_93 ?_
      refine lv_bipush (v := 8) C.1 C.2.1 dX11_scan_94 (by decide) ?_
      refine lv_icmp_ge (tgt := 124) C.1 C.2.1 dX11_scan_96 (by decide) (fun hc8 => ?_) (fun hc8 => ?_)
      · replace hf := ea_if_t hc8 hf
        exact wX11_scan_124 C hY ih _ _ _ _ _ _ hf hw (lv_sub hl [0, 1, 2] rfl)
      · replace hf := ea_if_f hc8 hf
        refine lv_aload_n C.1 C.2.1 dX11_scan_99 rfl (lv_at hl 0 rfl) ?_
        refine lv_ldc2 (v := (32 : Int64)) C.1 C.2.1 C.2.2.2.1 (C.2.2.2.2.1 _ wk_RX11_152) dX11_scan_100 ?_
        refine lv_aload_n C.1 C.2.1 dX11_scan_103 rfl (lv_at hl 0 rfl) ?_
        refine gf_X11_148 C hw (hY 100 11 rfl) dX11_scan_104 ?_
        refine lv_lmul C.1 C.2.1 dX11_scan_107 ?_
        refine lv_aload_n C.1 C.2.1 dX11_scan_108 rfl (lv_at hl 0 rfl) ?_
        refine lv_iload_n C.1 C.2.1 dX11_scan_109 rfl (lv_at hl 2 rfl) ?_
        obtain ⟨r10, M11, he9, hf⟩ := ea_ci_s hf
        refine ea_runi2 hw (cl_X11_128 C hw (hY 100 11 rfl) (As := [.int x3]) (rest := [.long ((32 : Int64) * (M6.2.1 100 10)), .ref (E.1 100)]) (mX11_byteAt (l := l) (E := E) (ids := ids) hY he9) (by decide) rfl hl.1 rfl (Nat.le_of_ble_eq_true rfl) dX11_scan_110 ⟨Nat.le_refl _, Nat.le_refl _⟩) (fun H locs hw => ?_)
        refine lv_i2l C.1 C.2.1 dX11_scan_113 rfl ?_
        refine lv_ladd C.1 C.2.1 dX11_scan_114 ?_
        refine lv_ldc2 (v := (97 : Int64)) C.1 C.2.1 C.2.2.2.1 (C.2.2.2.2.1 _ wk_RX11_154) dX11_scan_115 ?_
        refine lv_lsub C.1 C.2.1 dX11_scan_118 ?_
        refine lv_lconst (v := (1 : Int64)) C.1 C.2.1 dX11_scan_119 (by decide) ?_
        refine lv_ladd C.1 C.2.1 dX11_scan_120 ?_
        refine pu_X11_148 C hw (hY 100 11 rfl) dX11_scan_121 (fun H locs hw => ?_)
        exact wX11_scan_124 C hY ih _ _ _ _ _ _ hf hw (lv_sub hl [0, 1, 2] rfl)
set_option maxHeartbeats 4000000 in
set_option maxRecDepth 20000 in
theorem wX11_scan_270 (C : ea_C p s m args meth cd cX11_scan 4 none RX11) (hY : ea_Y ids) : ∀ (x3 : Int32) (M : eM) (H : Heap) (locs : List Loc) (ls : Array Slot), fX11_scan_270 x3 M = some res → ea_w E ids M s H locs → lv_has ls 4 [(0, .ref (E.1 100)), (3, .int x3)] → W p l e (ea_rm 5 112) s m args below meth cd H locs 0 0 (MQ below (ea_Qv E ids res) args s 0 0 (ea_Ad E ids)) (F0 m 270 ls []) := by
  intro x3 M H locs ls hf  hw hl
  replace hf := (fX11_scan_270.eq_1 ..).symm.trans hf
  refine lv_aload_n C.1 C.2.1 dX11_scan_270 rfl (lv_at hl 0 rfl) ?_
  refine lv_iload_n C.1 C.2.1 dX11_scan_271 rfl (lv_at hl 1 rfl) ?_
  refine pu_X11_132 C hw (hY 100 11 rfl) dX11_scan_272 (fun H locs hw => ?_)
  exact ea_vret C hw hf dX11_scan_275
set_option maxHeartbeats 4000000 in
set_option maxRecDepth 20000 in
theorem wX11_scan_144 (C : ea_C p s m args meth cd cX11_scan 4 none RX11) (hY : ea_Y ids) : ∀ (x1 : Int32) (x3 : Int32) (t0 : Int32) (M : eM) (H : Heap) (locs : List Loc) (ls : Array Slot), fX11_scan_144 x1 x3 t0 M = some res → ea_w E ids M s H locs → lv_has ls 4 [(0, .ref (E.1 100)), (1, .int x1), (3, .int x3)] → W p l e (ea_rm 5 112) s m args below meth cd H locs 0 0 (MQ below (ea_Qv E ids res) args s 0 0 (ea_Ad E ids)) (F0 m 144 ls [.int t0, .ref (E.1 100)]) := by
  intro x1 x3 t0 M H locs ls hf  hw hl
  replace hf := (fX11_scan_144.eq_1 ..).symm.trans hf
  refine pu_X11_141 C hw (hY 100 11 rfl) dX11_scan_144 (fun H locs hw => ?_)
  refine lv_aload_n C.1 C.2.1 dX11_scan_147 rfl (lv_at hl 0 rfl) ?_
  refine gf_X11_141 C hw (hY 100 11 rfl) dX11_scan_148 ?_
  refine lv_iconst (v := 1) C.1 C.2.1 dX11_scan_151 (by decide) ?_
  refine lv_icmp_ne (tgt := 270) C.1 C.2.1 dX11_scan_152 (by decide) (fun hc1 => ?_) (fun hc1 => ?_)
  · replace hf := ea_if_f hc1 hf
    exact wX11_scan_270 C hY _ _ _ _ _ hf hw (lv_sub hl [0, 2] rfl)
  · replace hf := ea_if_t hc1 hf
    refine lv_aload_n C.1 C.2.1 dX11_scan_155 rfl (lv_at hl 0 rfl) ?_
    refine lv_aload_n C.1 C.2.1 dX11_scan_156 rfl (lv_at hl 0 rfl) ?_
    refine lv_iload_n C.1 C.2.1 dX11_scan_157 rfl (lv_at hl 1 rfl) ?_
    refine lv_iload_n C.1 C.2.1 dX11_scan_158 rfl (lv_at hl 2 rfl) ?_
    refine lv_iload_n C.1 C.2.1 dX11_scan_159 rfl (lv_at hl 1 rfl) ?_
    refine lv_isub C.1 C.2.1 dX11_scan_160 ?_
    obtain ⟨r3, M4, he2, hf⟩ := ea_ci_s hf
    refine ea_runi2 hw (cl_X11_156 C hw (hY 100 11 rfl) (As := [.int x1, .int (x3 - x1)]) (rest := [.ref (E.1 100)]) (mX11_keyAt (l := l) (E := E) (ids := ids) hY he2) (by decide) rfl hl.1 rfl (Nat.le_of_ble_eq_true rfl) dX11_scan_161 ⟨Nat.le_refl _, Nat.le_refl _⟩) (fun H locs hw => ?_)
    refine pu_X11_138 C hw (hY 100 11 rfl) dX11_scan_164 (fun H locs hw => ?_)
    refine lv_goto (tgt := 270) C.1 C.2.1 dX11_scan_167 (by decide) ?_
    exact wX11_scan_270 C hY _ _ _ _ _ hf hw (lv_sub hl [0, 2] rfl)
set_option maxHeartbeats 4000000 in
set_option maxRecDepth 20000 in
theorem wX11_scan_130 (C : ea_C p s m args meth cd cX11_scan 4 none RX11) (hY : ea_Y ids) : ∀ (x1 : Int32) (x3 : Int32) (M : eM) (H : Heap) (locs : List Loc) (ls : Array Slot), fX11_scan_130 x1 x3 M = some res → ea_w E ids M s H locs → lv_has ls 4 [(0, .ref (E.1 100)), (1, .int x1), (3, .int x3)] → W p l e (ea_rm 5 112) s m args below meth cd H locs 0 0 (MQ below (ea_Qv E ids res) args s 0 0 (ea_Ad E ids)) (F0 m 130 ls []) := by
  intro x1 x3 M H locs ls hf  hw hl
  replace hf := (fX11_scan_130.eq_1 ..).symm.trans hf
  refine lv_aload_n C.1 C.2.1 dX11_scan_130 rfl (lv_at hl 0 rfl) ?_
  refine lv_iload_n C.1 C.2.1 dX11_scan_131 rfl (lv_at hl 2 rfl) ?_
  refine lv_iload_n C.1 C.2.1 dX11_scan_132 rfl (lv_at hl 1 rfl) ?_
  refine lv_isub C.1 C.2.1 dX11_scan_133 ?_
  refine lv_bipush (v := 8) C.1 C.2.1 dX11_scan_134 (by decide) ?_
  refine lv_icmp_le (tgt := 143) C.1 C.2.1 dX11_scan_136 (by decide) (fun hc1 => ?_) (fun hc1 => ?_)
  · replace hf := ea_if_t hc1 hf
    refine lv_iconst (v := 1) C.1 C.2.1 dX11_scan_143 (by decide) ?_
    exact wX11_scan_144 C hY _ _ _ _ _ _ _ hf hw (lv_sub hl [0, 1, 2] rfl)
  · replace hf := ea_if_f hc1 hf
    refine lv_iconst (v := 0) C.1 C.2.1 dX11_scan_139 (by decide) ?_
    refine lv_goto (tgt := 144) C.1 C.2.1 dX11_scan_140 (by decide) ?_
    exact wX11_scan_144 C hY _ _ _ _ _ _ _ hf hw (lv_sub hl [0, 1, 2] rfl)
set_option maxHeartbeats 4000000 in
set_option maxRecDepth 20000 in
theorem wX11_scan_227 (C : ea_C p s m args meth cd cX11_scan 4 none RX11) (hY : ea_Y ids) {k185 : Int32 → Int32 → eM → Option (eM)} (hk185 : ∀ (x1 : Int32) (x3 : Int32) (M : eM) (H : Heap) (locs : List Loc) (ls : Array Slot), k185 x1 x3 M = some res → ea_w E ids M s H locs → lv_has ls 4 [(0, .ref (E.1 100)), (1, .int x1), (3, .int x3)] → W p l e (ea_rm 5 112) s m args below meth cd H locs 0 0 (MQ below (ea_Qv E ids res) args s 0 0 (ea_Ad E ids)) (F0 m 185 ls [])) : ∀ (x1 : Int32) (x3 : Int32) (t0 : Int32) (M : eM) (H : Heap) (locs : List Loc) (ls : Array Slot), fX11_scan_227 k185 x1 x3 t0 M = some res → ea_w E ids M s H locs → lv_has ls 4 [(0, .ref (E.1 100)), (1, .int x1), (3, .int x3)] → W p l e (ea_rm 5 112) s m args below meth cd H locs 0 0 (MQ below (ea_Qv E ids res) args s 0 0 (ea_Ad E ids)) (F0 m 227 ls [.int t0, .ref (E.1 100)]) := by
  intro x1 x3 t0 M H locs ls hf  hw hl
  replace hf := (fX11_scan_227.eq_1 ..).symm.trans hf
  refine pu_X11_163 C hw (hY 100 11 rfl) dX11_scan_227 (fun H locs hw => ?_)
  refine lv_iinc (v := x3 + (1 : Int32)) (lv' := [(3, .int (x3 + (1 : Int32))), (0, .ref (E.1 100)), (1, .int x1)]) C.1 C.2.1 dX11_scan_230 hl (k := 2) rfl rfl (by decide) rfl (fun ls hl => ?_)
  refine lv_goto (tgt := 185) C.1 C.2.1 dX11_scan_233 (by decide) ?_
  exact hk185 _ _ _ _ _ _ hf hw (lv_sub hl [1, 2, 0] rfl)
set_option maxHeartbeats 4000000 in
set_option maxRecDepth 20000 in
theorem wX11_scan_185 (C : ea_C p s m args meth cd cX11_scan 4 none RX11) (hY : ea_Y ids) {k236 : Int32 → Int32 → eM → Option (eM)} (hk236 : ∀ (x1 : Int32) (x3 : Int32) (M : eM) (H : Heap) (locs : List Loc) (ls : Array Slot), k236 x1 x3 M = some res → ea_w E ids M s H locs → lv_has ls 4 [(0, .ref (E.1 100)), (1, .int x1), (3, .int x3)] → W p l e (ea_rm 5 112) s m args below meth cd H locs 0 0 (MQ below (ea_Qv E ids res) args s 0 0 (ea_Ad E ids)) (F0 m 236 ls [])) : ∀ (n : Nat) (x1 : Int32) (x3 : Int32) (M : eM) (H : Heap) (locs : List Loc) (ls : Array Slot), fX11_scan_185 k236 n x1 x3 M = some res → ea_w E ids M s H locs → lv_has ls 4 [(0, .ref (E.1 100)), (1, .int x1), (3, .int x3)] → W p l e (ea_rm 5 112) s m args below meth cd H locs 0 0 (MQ below (ea_Qv E ids res) args s 0 0 (ea_Ad E ids)) (F0 m 185 ls []) := by
  intro n
  induction n with
  | zero => intro x1 x3 M H locs ls hf; cases hf
  | succ n ih =>
    intro x1 x3 M H locs ls hf  hw hl
    replace hf := (fX11_scan_185.eq_2 ..).symm.trans hf
    refine lv_aload_n C.1 C.2.1 dX11_scan_185 rfl (lv_at hl 0 rfl) ?_
    refine lv_iload_n C.1 C.2.1 dX11_scan_186 rfl (lv_at hl 2 rfl) ?_
    obtain ⟨r2, M3, he1, hf⟩ := ea_ci_s hf
    refine ea_runi2 hw (cl_X11_128 C hw (hY 100 11 rfl) (As := [.int x3]) (rest := []) (mX11_byteAt (l := l) (E := E) (ids := ids) hY he1) (by decide) rfl hl.1 rfl (Nat.le_of_ble_eq_true rfl) dX11_scan_187 ⟨Nat.le_refl _, Nat.le_refl _⟩) (fun H locs hw => ?_)
    obtain ⟨r5, M6, he4, hf⟩ := ea_ci_s hf
    refine ea_runi2 hw (cl_X11_160 C hw (As := [.int r2]) (rest := []) (mX11_isDigit (l := l) (E := E) (ids := ids) hY he4) (by decide) rfl hl.1 rfl (Nat.le_of_ble_eq_true rfl) dX11_scan_190 ⟨Nat.le_refl _, Nat.le_refl _⟩) (fun H locs hw => ?_)
    refine lv_if_eq (tgt := 236) C.1 C.2.1 dX11_scan_193 (by decide) (fun hc7 => ?_) (fun hc7 => ?_)
    · replace hf := ea_if_t hc7 hf
      exact hk236 _ _ _ _ _ _ hf hw (lv_sub hl [0, 1, 2] rfl)
    · replace hf := ea_if_f hc7 hf
      refine lv_aload_n C.1 C.2.1 dX11_scan_196 rfl (lv_at hl 0 rfl) ?_
      refine lv_iload_n C.1 C.2.1 dX11_scan_197 rfl (lv_at hl 2 rfl) ?_
      refine lv_iload_n C.1 C.2.1 dX11_scan_198 rfl (lv_at hl 1 rfl) ?_
      refine lv_isub C.1 C.2.1 dX11_scan_199 ?_
      refine lv_iconst (v := 4) C.1 C.2.1 dX11_scan_200 (by decide) ?_
      refine lv_icmp_ge (tgt := 223) C.1 C.2.1 dX11_scan_201 (by decide) (fun hc8 => ?_) (fun hc8 => ?_)
      · replace hf := ea_if_t hc8 hf
        refine lv_aload_n C.1 C.2.1 dX11_scan_223 rfl (lv_at hl 0 rfl) ?_
        refine gf_X11_163 C hw (hY 100 11 rfl) dX11_scan_224 ?_
        exact wX11_scan_227 C hY ih _ _ _ _ _ _ _ hf hw (lv_sub hl [0, 1, 2] rfl)
      · replace hf := ea_if_f hc8 hf
        refine lv_bipush (v := 10) C.1 C.2.1 dX11_scan_204 (by decide) ?_
        refine lv_aload_n C.1 C.2.1 dX11_scan_206 rfl (lv_at hl 0 rfl) ?_
        refine gf_X11_163 C hw (hY 100 11 rfl) dX11_scan_207 ?_
        refine lv_imul C.1 C.2.1 dX11_scan_210 ?_
        refine lv_aload_n C.1 C.2.1 dX11_scan_211 rfl (lv_at hl 0 rfl) ?_
        refine lv_iload_n C.1 C.2.1 dX11_scan_212 rfl (lv_at hl 2 rfl) ?_
        obtain ⟨r10, M11, he9, hf⟩ := ea_ci_s hf
        refine ea_runi2 hw (cl_X11_128 C hw (hY 100 11 rfl) (As := [.int x3]) (rest := [.int ((10 : Int32) * (M6.1 100 7)), .ref (E.1 100)]) (mX11_byteAt (l := l) (E := E) (ids := ids) hY he9) (by decide) rfl hl.1 rfl (Nat.le_of_ble_eq_true rfl) dX11_scan_213 ⟨Nat.le_refl _, Nat.le_refl _⟩) (fun H locs hw => ?_)
        refine lv_iadd C.1 C.2.1 dX11_scan_216 ?_
        refine lv_bipush (v := 48) C.1 C.2.1 dX11_scan_217 (by decide) ?_
        refine lv_isub C.1 C.2.1 dX11_scan_219 ?_
        refine lv_goto (tgt := 227) C.1 C.2.1 dX11_scan_220 (by decide) ?_
        exact wX11_scan_227 C hY ih _ _ _ _ _ _ _ hf hw (lv_sub hl [0, 1, 2] rfl)
set_option maxHeartbeats 4000000 in
set_option maxRecDepth 20000 in
theorem wX11_scan_249 (C : ea_C p s m args meth cd cX11_scan 4 none RX11) (hY : ea_Y ids) : ∀ (x3 : Int32) (t0 : Int32) (M : eM) (H : Heap) (locs : List Loc) (ls : Array Slot), fX11_scan_249 x3 t0 M = some res → ea_w E ids M s H locs → lv_has ls 4 [(0, .ref (E.1 100)), (3, .int x3)] → W p l e (ea_rm 5 112) s m args below meth cd H locs 0 0 (MQ below (ea_Qv E ids res) args s 0 0 (ea_Ad E ids)) (F0 m 249 ls [.int t0, .ref (E.1 100)]) := by
  intro x3 t0 M H locs ls hf  hw hl
  replace hf := (fX11_scan_249.eq_1 ..).symm.trans hf
  refine pu_X11_141 C hw (hY 100 11 rfl) dX11_scan_249 (fun H locs hw => ?_)
  refine lv_goto (tgt := 270) C.1 C.2.1 dX11_scan_252 (by decide) ?_
  exact wX11_scan_270 C hY _ _ _ _ _ hf hw (lv_sub hl [0, 1] rfl)
set_option maxHeartbeats 4000000 in
set_option maxRecDepth 20000 in
theorem wX11_scan_236 (C : ea_C p s m args meth cd cX11_scan 4 none RX11) (hY : ea_Y ids) : ∀ (x1 : Int32) (x3 : Int32) (M : eM) (H : Heap) (locs : List Loc) (ls : Array Slot), fX11_scan_236 x1 x3 M = some res → ea_w E ids M s H locs → lv_has ls 4 [(0, .ref (E.1 100)), (1, .int x1), (3, .int x3)] → W p l e (ea_rm 5 112) s m args below meth cd H locs 0 0 (MQ below (ea_Qv E ids res) args s 0 0 (ea_Ad E ids)) (F0 m 236 ls []) := by
  intro x1 x3 M H locs ls hf  hw hl
  replace hf := (fX11_scan_236.eq_1 ..).symm.trans hf
  refine lv_aload_n C.1 C.2.1 dX11_scan_236 rfl (lv_at hl 0 rfl) ?_
  refine lv_iload_n C.1 C.2.1 dX11_scan_237 rfl (lv_at hl 2 rfl) ?_
  refine lv_iload_n C.1 C.2.1 dX11_scan_238 rfl (lv_at hl 1 rfl) ?_
  refine lv_isub C.1 C.2.1 dX11_scan_239 ?_
  refine lv_iconst (v := 4) C.1 C.2.1 dX11_scan_240 (by decide) ?_
  refine lv_icmp_le (tgt := 248) C.1 C.2.1 dX11_scan_241 (by decide) (fun hc1 => ?_) (fun hc1 => ?_)
  · replace hf := ea_if_t hc1 hf
    refine lv_iconst (v := 2) C.1 C.2.1 dX11_scan_248 (by decide) ?_
    exact wX11_scan_249 C hY _ _ _ _ _ _ hf hw (lv_sub hl [0, 2] rfl)
  · replace hf := ea_if_f hc1 hf
    refine lv_iconst (v := 0) C.1 C.2.1 dX11_scan_244 (by decide) ?_
    refine lv_goto (tgt := 249) C.1 C.2.1 dX11_scan_245 (by decide) ?_
    exact wX11_scan_249 C hY _ _ _ _ _ _ hf hw (lv_sub hl [0, 2] rfl)
set_option maxHeartbeats 4000000 in
set_option maxRecDepth 20000 in
theorem wX11_scan_267 (C : ea_C p s m args meth cd cX11_scan 4 none RX11) (hY : ea_Y ids) : ∀ (x3 : Int32) (t0 : Int32) (M : eM) (H : Heap) (locs : List Loc) (ls : Array Slot), fX11_scan_267 x3 t0 M = some res → ea_w E ids M s H locs → lv_has ls 4 [(0, .ref (E.1 100)), (3, .int x3)] → W p l e (ea_rm 5 112) s m args below meth cd H locs 0 0 (MQ below (ea_Qv E ids res) args s 0 0 (ea_Ad E ids)) (F0 m 267 ls [.int t0, .ref (E.1 100)]) := by
  intro x3 t0 M H locs ls hf  hw hl
  replace hf := (fX11_scan_267.eq_1 ..).symm.trans hf
  refine pu_X11_141 C hw (hY 100 11 rfl) dX11_scan_267 (fun H locs hw => ?_)
  exact wX11_scan_270 C hY _ _ _ _ _ hf hw (lv_sub hl [0, 1] rfl)
set_option maxHeartbeats 4000000 in
set_option maxRecDepth 20000 in
theorem wX11_scan_31 (C : ea_C p s m args meth cd cX11_scan 4 none RX11) (hY : ea_Y ids) : ∀ (x1 : Int32) (M : eM) (H : Heap) (locs : List Loc) (ls : Array Slot), fX11_scan_31 x1 M = some res → ea_w E ids M s H locs → lv_has ls 4 [(0, .ref (E.1 100)), (1, .int x1)] → W p l e (ea_rm 5 112) s m args below meth cd H locs 0 0 (MQ below (ea_Qv E ids res) args s 0 0 (ea_Ad E ids)) (F0 m 31 ls []) := by
  intro x1 M H locs ls hf  hw hl
  replace hf := (fX11_scan_31.eq_1 ..).symm.trans hf
  refine lv_aload_n C.1 C.2.1 dX11_scan_31 rfl (lv_at hl 0 rfl) ?_
  refine lv_iload_n C.1 C.2.1 dX11_scan_32 rfl (lv_at hl 1 rfl) ?_
  refine pu_X11_135 C hw (hY 100 11 rfl) dX11_scan_33 (fun H locs hw => ?_)
  refine lv_aload_n C.1 C.2.1 dX11_scan_36 rfl (lv_at hl 0 rfl) ?_
  refine lv_iload_n C.1 C.2.1 dX11_scan_37 rfl (lv_at hl 1 rfl) ?_
  obtain ⟨r2, M3, he1, hf⟩ := ea_ci_s hf
  refine ea_runi2 hw (cl_X11_128 C hw (hY 100 11 rfl) (As := [.int x1]) (rest := []) (mX11_byteAt (l := l) (E := E) (ids := ids) hY he1) (by decide) rfl hl.1 rfl (Nat.le_of_ble_eq_true rfl) dX11_scan_38 ⟨Nat.le_refl _, Nat.le_refl _⟩) (fun H locs hw => ?_)
  refine lv_istore_n (lv' := [(2, .int r2), (0, .ref (E.1 100)), (1, .int x1)]) C.1 C.2.1 dX11_scan_41 rfl hl (by decide) rfl (fun ls hl => ?_)
  refine lv_iload_n C.1 C.2.1 dX11_scan_42 rfl (lv_at hl 2 rfl) ?_
  refine lv_iconst (v := 1) C.1 C.2.1 dX11_scan_43 (by decide) ?_
  refine lv_iadd C.1 C.2.1 dX11_scan_44 ?_
  refine lv_istore_n (lv' := [(3, .int (x1 + (1 : Int32))), (2, .int r2), (0, .ref (E.1 100)), (1, .int x1)]) C.1 C.2.1 dX11_scan_45 rfl hl (by decide) rfl (fun ls hl => ?_)
  refine lv_aload_n C.1 C.2.1 dX11_scan_46 rfl (lv_at hl 2 rfl) ?_
  refine lv_iconst (v := (-1 : Int32)) C.1 C.2.1 dX11_scan_47 (by decide) ?_
  refine pu_X11_138 C hw (hY 100 11 rfl) dX11_scan_48 (fun H locs hw => ?_)
  refine lv_iload_n C.1 C.2.1 dX11_scan_51 rfl (lv_at hl 1 rfl) ?_
  refine lv_iconst (v := (-1 : Int32)) C.1 C.2.1 dX11_scan_52 (by decide) ?_
  refine lv_icmp_ne (tgt := 66) C.1 C.2.1 dX11_scan_53 (by decide) (fun hc4 => ?_) (fun hc4 => ?_)
  · replace hf := ea_if_f hc4 hf
    refine lv_iload_n C.1 C.2.1 dX11_scan_66 rfl (lv_at hl 1 rfl) ?_
    obtain ⟨r6, M7, he5, hf⟩ := ea_ci_s hf
    refine ea_runi2 hw (cl_X11_144 C hw (As := [.int r2]) (rest := []) (mX11_isSmall (l := l) (E := E) (ids := ids) hY he5) (by decide) rfl hl.1 rfl (Nat.le_of_ble_eq_true rfl) dX11_scan_67 ⟨Nat.le_refl _, Nat.le_refl _⟩) (fun H locs hw => ?_)
    refine lv_if_eq (tgt := 170) C.1 C.2.1 dX11_scan_70 (by decide) (fun hc8 => ?_) (fun hc8 => ?_)
    · replace hf := ea_if_t hc8 hf
      refine lv_iload_n C.1 C.2.1 dX11_scan_170 rfl (lv_at hl 1 rfl) ?_
      obtain ⟨r10, M11, he9, hf⟩ := ea_ci_s hf
      refine ea_runi2 hw (cl_X11_160 C hw (As := [.int r2]) (rest := []) (mX11_isDigit (l := l) (E := E) (ids := ids) hY he9) (by decide) rfl hl.1 rfl (Nat.le_of_ble_eq_true rfl) dX11_scan_171 ⟨Nat.le_refl _, Nat.le_refl _⟩) (fun H locs hw => ?_)
      refine lv_if_eq (tgt := 255) C.1 C.2.1 dX11_scan_174 (by decide) (fun hc12 => ?_) (fun hc12 => ?_)
      · replace hf := ea_if_t hc12 hf
        refine lv_aload_n C.1 C.2.1 dX11_scan_255 rfl (lv_at hl 2 rfl) ?_
        refine lv_iload_n C.1 C.2.1 dX11_scan_256 rfl (lv_at hl 1 rfl) ?_
        refine lv_bipush (v := 59) C.1 C.2.1 dX11_scan_257 (by decide) ?_
        refine lv_icmp_ne (tgt := 266) C.1 C.2.1 dX11_scan_259 (by decide) (fun hc13 => ?_) (fun hc13 => ?_)
        · replace hf := ea_if_f hc13 hf
          refine lv_iconst (v := 0) C.1 C.2.1 dX11_scan_266 (by decide) ?_
          exact wX11_scan_267 C hY _ _ _ _ _ _ hf hw (lv_sub hl [2, 0] rfl)
        · replace hf := ea_if_t hc13 hf
          refine lv_iconst (v := 3) C.1 C.2.1 dX11_scan_262 (by decide) ?_
          refine lv_goto (tgt := 267) C.1 C.2.1 dX11_scan_263 (by decide) ?_
          exact wX11_scan_267 C hY _ _ _ _ _ _ hf hw (lv_sub hl [2, 0] rfl)
      · replace hf := ea_if_f hc12 hf
        refine lv_aload_n C.1 C.2.1 dX11_scan_177 rfl (lv_at hl 2 rfl) ?_
        refine lv_iload_n C.1 C.2.1 dX11_scan_178 rfl (lv_at hl 1 rfl) ?_
        refine lv_bipush (v := 48) C.1 C.2.1 dX11_scan_179 (by decide) ?_
        refine lv_isub C.1 C.2.1 dX11_scan_181 ?_
        refine pu_X11_163 C hw (hY 100 11 rfl) dX11_scan_182 (fun H locs hw => ?_)
        exact wX11_scan_185 C hY (wX11_scan_236 C hY) ea_N _ _ _ _ _ _ hf hw (lv_sub hl [2, 3, 0] rfl)
    · replace hf := ea_if_f hc8 hf
      refine lv_aload_n C.1 C.2.1 dX11_scan_73 rfl (lv_at hl 2 rfl) ?_
      refine lv_lconst (v := (0 : Int64)) C.1 C.2.1 dX11_scan_74 (by decide) ?_
      refine pu_X11_148 C hw (hY 100 11 rfl) dX11_scan_75 (fun H locs hw => ?_)
      refine lv_iload_n C.1 C.2.1 dX11_scan_78 rfl (lv_at hl 3 rfl) ?_
      refine lv_istore_n (lv' := [(3, .int x1), (2, .int r2), (0, .ref (E.1 100)), (1, .int x1)]) C.1 C.2.1 dX11_scan_79 rfl hl (by decide) rfl (fun ls hl => ?_)
      exact wX11_scan_80 C hY (wX11_scan_130 C hY) ea_N _ _ _ _ _ _ hf hw (lv_sub hl [2, 3, 0] rfl)
  · replace hf := ea_if_t hc4 hf
    refine lv_aload_n C.1 C.2.1 dX11_scan_56 rfl (lv_at hl 2 rfl) ?_
    refine lv_iconst (v := 4) C.1 C.2.1 dX11_scan_57 (by decide) ?_
    refine pu_X11_141 C hw (hY 100 11 rfl) dX11_scan_58 (fun H locs hw => ?_)
    refine lv_iload_n C.1 C.2.1 dX11_scan_61 rfl (lv_at hl 3 rfl) ?_
    refine lv_istore_n (lv' := [(3, .int x1), (2, .int r2), (0, .ref (E.1 100)), (1, .int x1)]) C.1 C.2.1 dX11_scan_62 rfl hl (by decide) rfl (fun ls hl => ?_)
    refine lv_goto (tgt := 270) C.1 C.2.1 dX11_scan_63 (by decide) ?_
    exact wX11_scan_270 C hY _ _ _ _ _ hf hw (lv_sub hl [2, 0] rfl)
set_option maxHeartbeats 4000000 in
set_option maxRecDepth 20000 in
theorem wX11_scan_0 (C : ea_C p s m args meth cd cX11_scan 4 none RX11) (hY : ea_Y ids) : ∀  (M : eM) (H : Heap) (locs : List Loc) (ls : Array Slot), fX11_scan_0 M = some res → ea_w E ids M s H locs → lv_has ls 4 [(0, .ref (E.1 100))] → W p l e (ea_rm 5 112) s m args below meth cd H locs 0 0 (MQ below (ea_Qv E ids res) args s 0 0 (ea_Ad E ids)) (F0 m 0 ls []) := by
  intro M H locs ls hf  hw hl
  replace hf := (fX11_scan_0.eq_1 ..).symm.trans hf
  refine lv_aload_n C.1 C.2.1 dX11_scan_0 rfl (lv_at hl 0 rfl) ?_
  refine gf_X11_132 C hw (hY 100 11 rfl) dX11_scan_1 ?_
  refine lv_istore_n (lv' := [(1, .int (M.1 100 6)), (0, .ref (E.1 100))]) C.1 C.2.1 dX11_scan_4 rfl hl (by decide) rfl (fun ls hl => ?_)
  exact wX11_scan_5 C hY (wX11_scan_31 C hY) ea_N _ _ _ _ _ hf hw (lv_sub hl [1, 0] rfl)
set_option maxHeartbeats 4000000 in
set_option maxRecDepth 20000 in
theorem mX11_scan {l : Launch} {E : eE} {ids : List Nat} (hY : ea_Y ids) {M : eM} {res : eM} (hf : fX11_scan M = some res) : ea_Mv l yX11_scan cX11_scan 4 5 112 E ids [.ref (E.1 100)] M res := by
  refine ea_gov (by decide) (Nat.le_of_ble_eq_true rfl) wc_X11_scan ?_
  intro p e s m below meth cd ls C hw hl
  exact wX11_scan_0 C hY  _ _ _ _ hf hw hl
end SX11_scan

def fX11_readNumber_0 (x1 : Int32) (x2 : Int32) (M : eM) : Option (Int32 × eM) := if (M.1 100 3) = (2 : Int32) then (ea_ci (fX11_in (M.1 100 7) x1 x2 M) (fun r3 M4 => if r3 = 0 then (ea_ci (fX11_fails (2 : Int32) M4) (fun r9 M10 => ea_ck (ea_01 r9) (some (r9, M10)))) else (ea_cv (fX11_scan (ea_pI M4 100 11 (M4.1 100 7))) (fun M7 => some ((1 : Int32), M7))))) else (ea_ci (fX11_fails (1 : Int32) M) (fun r13 M14 => ea_ck (ea_01 r13) (some (r13, M14))))
def fX11_readNumber (x1 : Int32) (x2 : Int32) (M : eM) : Option (Int32 × eM) := fX11_readNumber_0 x1 x2 M
section SX11_readNumber
variable {p : Program} {l : Launch} {e : Env} {s : State} {m : MethodId} {args : Array Value} {below : List Frame} {meth : Method} {cd : Code} {E : eE} {ids : List Nat} {res : Int32 × eM}
set_option maxHeartbeats 4000000 in
set_option maxRecDepth 20000 in
theorem wX11_readNumber_0 (C : ea_C p s m args meth cd cX11_readNumber 3 (some .boolean) RX11) (hY : ea_Y ids) : ∀ (x1 : Int32) (x2 : Int32) (M : eM) (H : Heap) (locs : List Loc) (ls : Array Slot), fX11_readNumber_0 x1 x2 M = some res → ea_w E ids M s H locs → lv_has ls 3 [(0, .ref (E.1 100)), (1, .int x1), (2, .int x2)] → W p l e (ea_rm 6 135) s m args below meth cd H locs 0 0 (MQ below (ea_Qi E ids res) args s 0 0 (ea_Ad E ids)) (F0 m 0 ls []) := by
  intro x1 x2 M H locs ls hf  hw hl
  replace hf := (fX11_readNumber_0.eq_1 ..).symm.trans hf
  refine lv_aload_n C.1 C.2.1 dX11_readNumber_0 rfl (lv_at hl 0 rfl) ?_
  refine gf_X11_141 C hw (hY 100 11 rfl) dX11_readNumber_1 ?_
  refine lv_iconst (v := 2) C.1 C.2.1 dX11_readNumber_4 (by decide) ?_
  refine lv_icmp_eq (tgt := 14) C.1 C.2.1 dX11_readNumber_5 (by decide) (fun hc1 => ?_) (fun hc1 => ?_)
  · replace hf := ea_if_t hc1 hf
    refine lv_aload_n C.1 C.2.1 dX11_readNumber_14 rfl (lv_at hl 0 rfl) ?_
    refine gf_X11_163 C hw (hY 100 11 rfl) dX11_readNumber_15 ?_
    refine lv_iload_n C.1 C.2.1 dX11_readNumber_18 rfl (lv_at hl 1 rfl) ?_
    refine lv_iload_n C.1 C.2.1 dX11_readNumber_19 rfl (lv_at hl 2 rfl) ?_
    obtain ⟨r3, M4, he2, hf⟩ := ea_ci_s hf
    refine ea_runi2 hw (cl_X11_172 C hw (As := [.int (M.1 100 7), .int x1, .int x2]) (rest := []) (mX11_in (l := l) (E := E) (ids := ids) hY he2) (by decide) rfl hl.1 rfl (Nat.le_of_ble_eq_true rfl) dX11_readNumber_20 ⟨Nat.le_refl _, Nat.le_refl _⟩) (fun H locs hw => ?_)
    refine lv_if_ne (tgt := 32) C.1 C.2.1 dX11_readNumber_23 (by decide) (fun hc5 => ?_) (fun hc5 => ?_)
    · replace hf := ea_if_f hc5 hf
      refine lv_aload_n C.1 C.2.1 dX11_readNumber_32 rfl (lv_at hl 0 rfl) ?_
      refine lv_aload_n C.1 C.2.1 dX11_readNumber_33 rfl (lv_at hl 0 rfl) ?_
      refine gf_X11_163 C hw (hY 100 11 rfl) dX11_readNumber_34 ?_
      refine pu_X11_176 C hw (hY 100 11 rfl) dX11_readNumber_37 (fun H locs hw => ?_)
      refine lv_aload_n C.1 C.2.1 dX11_readNumber_40 rfl (lv_at hl 0 rfl) ?_
      obtain ⟨M7, he6, hf⟩ := ea_cv_s hf
      refine ea_runv hw (cl_X11_179 C hw (hY 100 11 rfl) (As := []) (rest := []) (mX11_scan (l := l) (E := E) (ids := ids) hY he6) (by decide) rfl hl.1 rfl (Nat.le_of_ble_eq_true rfl) dX11_readNumber_41 ⟨Nat.le_refl _, Nat.le_refl _⟩) (fun H locs hw => ?_)
      refine lv_iconst (v := 1) C.1 C.2.1 dX11_readNumber_44 (by decide) ?_
      exact ea_zret C hw (by decide) hf dX11_readNumber_45
    · replace hf := ea_if_t hc5 hf
      refine lv_aload_n C.1 C.2.1 dX11_readNumber_26 rfl (lv_at hl 0 rfl) ?_
      refine lv_iconst (v := 2) C.1 C.2.1 dX11_readNumber_27 (by decide) ?_
      obtain ⟨r9, M10, he8, hf⟩ := ea_ci_s hf
      refine ea_runi2 hw (cl_X11_169 C hw (hY 100 11 rfl) (As := [.int (2 : Int32)]) (rest := []) (mX11_fails (l := l) (E := E) (ids := ids) hY he8) (by decide) rfl hl.1 rfl (Nat.le_of_ble_eq_true rfl) dX11_readNumber_28 ⟨Nat.le_refl _, Nat.le_refl _⟩) (fun H locs hw => ?_)
      obtain ⟨hc11, hf⟩ := ea_ck_s hf
      exact ea_zret C hw (ea_01_s hc11) hf dX11_readNumber_31
  · replace hf := ea_if_f hc1 hf
    refine lv_aload_n C.1 C.2.1 dX11_readNumber_8 rfl (lv_at hl 0 rfl) ?_
    refine lv_iconst (v := 1) C.1 C.2.1 dX11_readNumber_9 (by decide) ?_
    obtain ⟨r13, M14, he12, hf⟩ := ea_ci_s hf
    refine ea_runi2 hw (cl_X11_169 C hw (hY 100 11 rfl) (As := [.int (1 : Int32)]) (rest := []) (mX11_fails (l := l) (E := E) (ids := ids) hY he12) (by decide) rfl hl.1 rfl (Nat.le_of_ble_eq_true rfl) dX11_readNumber_10 ⟨Nat.le_refl _, Nat.le_refl _⟩) (fun H locs hw => ?_)
    obtain ⟨hc15, hf⟩ := ea_ck_s hf
    exact ea_zret C hw (ea_01_s hc15) hf dX11_readNumber_13
set_option maxHeartbeats 4000000 in
set_option maxRecDepth 20000 in
theorem mX11_readNumber {l : Launch} {E : eE} {ids : List Nat} (hY : ea_Y ids) {x1 : Int32} {x2 : Int32} {M : eM} {res : Int32 × eM} (hf : fX11_readNumber x1 x2 M = some res) : ea_Mi l yX11_readNumber cX11_readNumber 3 (some .boolean) 6 135 E ids [.ref (E.1 100), .int x1, .int x2] M res := by
  refine ea_goi (by decide) (Nat.le_of_ble_eq_true rfl) wc_X11_readNumber ?_
  intro p e s m below meth cd ls C hw hl
  exact wX11_readNumber_0 C hY _ _ _ _ _ _ hf hw hl
end SX11_readNumber

def fX11_readEye_39 (k58 : eM → Option (Int32 × eM)) (k70 : Int32 → eM → Option (Int32 × eM)) : Nat → Int32 → Int32 → eM → Option (Int32 × eM)
  | 0, _, _, _ => none
  | n + 1, x1, x2, M => if x1 ≤ x2 then (k70 x1 M) else (ea_ck (ea_ix x2 (ea_len 105)) (if (lg_cmp (M.2.1 105 x2.toNatClampNeg) (M.2.1 100 10)) = 0 then (k58 M) else (fX11_readEye_39 k58 k70 n x1 (x2 + (1 : Int32)) M)))
def fX11_readEye_58 (M : eM) : Option (Int32 × eM) := ea_ci (fX11_fails (3 : Int32) M) (fun r2 M3 => ea_ck (ea_01 r2) (some (r2, M3)))
def fX11_readEye_117 (k86 : Int32 → Int32 → eM → Option (Int32 × eM)) (x1 : Int32) (x2 : Int32) (M : eM) : Option (Int32 × eM) := ea_ci (fX11_readNumber (0 : Int32) (9 : Int32) M) (fun r2 M3 => if r2 = 0 then (some ((0 : Int32), M3)) else (ea_ck (ea_ix (((9 : Int32) * ((2 : Int32) + x1)) + x2) (ea_len 109)) (k86 x1 (x2 + (1 : Int32)) (ea_pI M3 109 ((((9 : Int32) * ((2 : Int32) + x1)) + x2).toNatClampNeg) (M3.1 100 11)))))
def fX11_readEye_86 (k107 : eM → Option (Int32 × eM)) (k152 : eM → Option (Int32 × eM)) : Nat → Int32 → Int32 → eM → Option (Int32 × eM)
  | 0, _, _, _ => none
  | n + 1, x1, x2, M => if (9 : Int32) ≤ x2 then (k152 M) else (if (x2 - x2 / (3 : Int32) * (3 : Int32)) = 0 then (ea_ci (fX11_isKey (9 : Int32) M) (fun r4 M5 => if r4 = 0 then (k107 M5) else (ea_cv (fX11_scan M5) (fun M8 => fX11_readEye_117 (fX11_readEye_86 k107 k152 n) x1 x2 M8)))) else (fX11_readEye_117 (fX11_readEye_86 k107 k152 n) x1 x2 M))
def fX11_readEye_107 (M : eM) : Option (Int32 × eM) := ea_ci (fX11_fails (1 : Int32) M) (fun r2 M3 => ea_ck (ea_01 r2) (some (r2, M3)))
def fX11_readEye_152 (M : eM) : Option (Int32 × eM) := some ((1 : Int32), ea_pI M 102 ((20 : Int32).toNatClampNeg) ((M.1 102 (20 : Int32).toNatClampNeg) + (1 : Int32)))
def fX11_readEye_70 (x1 : Int32) (M : eM) : Option (Int32 × eM) := ea_ck (ea_ix x1 (ea_len 105)) (ea_cv (fX11_scan (ea_pL M 105 (x1.toNatClampNeg) (M.2.1 100 10))) (fun M3 => fX11_readEye_86 (fX11_readEye_107) (fX11_readEye_152) ea_N x1 (0 : Int32) M3))
def fX11_readEye_0 (M : eM) : Option (Int32 × eM) := ea_lt (M.1 102 (20 : Int32).toNatClampNeg) (fun y1 => if y1 = (2 : Int32) then (ea_ci (fX11_fails (4 : Int32) M) (fun r12 M13 => ea_ck (ea_01 r12) (some (r12, M13)))) else (ea_cv (fX11_scan M) (fun M5 => if (M5.1 100 3) = (1 : Int32) then (fX11_readEye_39 (fX11_readEye_58) (fX11_readEye_70) ea_N y1 (0 : Int32) M5) else (ea_ci (fX11_fails (1 : Int32) M5) (fun r8 M9 => ea_ck (ea_01 r8) (some (r8, M9)))))))
def fX11_readEye (M : eM) : Option (Int32 × eM) := fX11_readEye_0 M
section SX11_readEye
variable {p : Program} {l : Launch} {e : Env} {s : State} {m : MethodId} {args : Array Value} {below : List Frame} {meth : Method} {cd : Code} {E : eE} {ids : List Nat} {res : Int32 × eM}
set_option maxHeartbeats 4000000 in
set_option maxRecDepth 20000 in
theorem wX11_readEye_39 (C : ea_C p s m args meth cd cX11_readEye 3 (some .boolean) RX11) (hY : ea_Y ids) {k58 : eM → Option (Int32 × eM)} (hk58 : ∀  (M : eM) (H : Heap) (locs : List Loc) (ls : Array Slot), k58 M = some res → ea_w E ids M s H locs → lv_has ls 3 [(0, .ref (E.1 100))] → W p l e (ea_rm 7 157) s m args below meth cd H locs 0 0 (MQ below (ea_Qi E ids res) args s 0 0 (ea_Ad E ids)) (F0 m 58 ls [])) {k70 : Int32 → eM → Option (Int32 × eM)} (hk70 : ∀ (x1 : Int32) (M : eM) (H : Heap) (locs : List Loc) (ls : Array Slot), k70 x1 M = some res → ea_w E ids M s H locs → lv_has ls 3 [(0, .ref (E.1 100)), (1, .int x1)] → W p l e (ea_rm 7 157) s m args below meth cd H locs 0 0 (MQ below (ea_Qi E ids res) args s 0 0 (ea_Ad E ids)) (F0 m 70 ls [])) : ∀ (n : Nat) (x1 : Int32) (x2 : Int32) (M : eM) (H : Heap) (locs : List Loc) (ls : Array Slot), fX11_readEye_39 k58 k70 n x1 x2 M = some res → ea_w E ids M s H locs → lv_has ls 3 [(0, .ref (E.1 100)), (1, .int x1), (2, .int x2)] → W p l e (ea_rm 7 157) s m args below meth cd H locs 0 0 (MQ below (ea_Qi E ids res) args s 0 0 (ea_Ad E ids)) (F0 m 39 ls []) := by
  intro n
  induction n with
  | zero => intro x1 x2 M H locs ls hf; cases hf
  | succ n ih =>
    intro x1 x2 M H locs ls hf  hw hl
    replace hf := (fX11_readEye_39.eq_2 ..).symm.trans hf
    refine lv_iload_n C.1 C.2.1 dX11_readEye_39 rfl (lv_at hl 2 rfl) ?_
    refine lv_iload_n C.1 C.2.1 dX11_readEye_40 rfl (lv_at hl 1 rfl) ?_
    refine lv_icmp_ge (tgt := 70) C.1 C.2.1 dX11_readEye_41 (by decide) (fun hc1 => ?_) (fun hc1 => ?_)
    · replace hf := ea_if_t hc1 hf
      exact hk70 _ _ _ _ _ hf hw (lv_sub hl [0, 1] rfl)
    · replace hf := ea_if_f hc1 hf
      refine lv_aload_n C.1 C.2.1 dX11_readEye_44 rfl (lv_at hl 0 rfl) ?_
      refine gf_X11_28 C hw (hY 100 11 rfl) dX11_readEye_45 ?_
      refine W.eq (g2 := F0 m 48 ls [.ref (E.1 105)]) rfl ?_
      refine lv_iload_n C.1 C.2.1 dX11_readEye_48 rfl (lv_at hl 2 rfl) ?_
      obtain ⟨hc2, hf⟩ := ea_ck_s hf
      refine ea_lald C hw (show ea_ok ids 105 21 from ok_11_15 (hY 100 11 rfl)) hc2 dX11_readEye_49 ?_
      refine lv_aload_n C.1 C.2.1 dX11_readEye_50 rfl (lv_at hl 0 rfl) ?_
      refine gf_X11_148 C hw (hY 100 11 rfl) dX11_readEye_51 ?_
      refine W.lcmp C.1 C.2.1 dX11_readEye_54 ?_
      refine lv_if_ne (tgt := 64) C.1 C.2.1 dX11_readEye_55 (by decide) (fun hc3 => ?_) (fun hc3 => ?_)
      · replace hf := ea_if_f hc3 hf
        refine lv_iinc (v := x2 + (1 : Int32)) (lv' := [(2, .int (x2 + (1 : Int32))), (0, .ref (E.1 100)), (1, .int x1)]) C.1 C.2.1 dX11_readEye_64 hl (k := 2) rfl rfl (by decide) rfl (fun ls hl => ?_)
        refine lv_goto (tgt := 39) C.1 C.2.1 dX11_readEye_67 (by decide) ?_
        exact ih _ _ _ _ _ _ hf hw (lv_sub hl [1, 2, 0] rfl)
      · replace hf := ea_if_t hc3 hf
        exact hk58 _ _ _ _ hf hw (lv_sub hl [0] rfl)
set_option maxHeartbeats 4000000 in
set_option maxRecDepth 20000 in
theorem wX11_readEye_58 (C : ea_C p s m args meth cd cX11_readEye 3 (some .boolean) RX11) (hY : ea_Y ids) : ∀  (M : eM) (H : Heap) (locs : List Loc) (ls : Array Slot), fX11_readEye_58 M = some res → ea_w E ids M s H locs → lv_has ls 3 [(0, .ref (E.1 100))] → W p l e (ea_rm 7 157) s m args below meth cd H locs 0 0 (MQ below (ea_Qi E ids res) args s 0 0 (ea_Ad E ids)) (F0 m 58 ls []) := by
  intro M H locs ls hf  hw hl
  replace hf := (fX11_readEye_58.eq_1 ..).symm.trans hf
  refine lv_aload_n C.1 C.2.1 dX11_readEye_58 rfl (lv_at hl 0 rfl) ?_
  refine lv_iconst (v := 3) C.1 C.2.1 dX11_readEye_59 (by decide) ?_
  obtain ⟨r2, M3, he1, hf⟩ := ea_ci_s hf
  refine ea_runi2 hw (cl_X11_169 C hw (hY 100 11 rfl) (As := [.int (3 : Int32)]) (rest := []) (mX11_fails (l := l) (E := E) (ids := ids) hY he1) (by decide) rfl hl.1 rfl (Nat.le_of_ble_eq_true rfl) dX11_readEye_60 ⟨Nat.le_refl _, Nat.le_refl _⟩) (fun H locs hw => ?_)
  obtain ⟨hc4, hf⟩ := ea_ck_s hf
  exact ea_zret C hw (ea_01_s hc4) hf dX11_readEye_63
set_option maxHeartbeats 4000000 in
set_option maxRecDepth 20000 in
theorem wX11_readEye_117 (C : ea_C p s m args meth cd cX11_readEye 3 (some .boolean) RX11) (hY : ea_Y ids) {k86 : Int32 → Int32 → eM → Option (Int32 × eM)} (hk86 : ∀ (x1 : Int32) (x2 : Int32) (M : eM) (H : Heap) (locs : List Loc) (ls : Array Slot), k86 x1 x2 M = some res → ea_w E ids M s H locs → lv_has ls 3 [(0, .ref (E.1 100)), (1, .int x1), (2, .int x2)] → W p l e (ea_rm 7 157) s m args below meth cd H locs 0 0 (MQ below (ea_Qi E ids res) args s 0 0 (ea_Ad E ids)) (F0 m 86 ls [])) : ∀ (x1 : Int32) (x2 : Int32) (M : eM) (H : Heap) (locs : List Loc) (ls : Array Slot), fX11_readEye_117 k86 x1 x2 M = some res → ea_w E ids M s H locs → lv_has ls 3 [(0, .ref (E.1 100)), (1, .int x1), (2, .int x2)] → W p l e (ea_rm 7 157) s m args below meth cd H locs 0 0 (MQ below (ea_Qi E ids res) args s 0 0 (ea_Ad E ids)) (F0 m 117 ls []) := by
  intro x1 x2 M H locs ls hf  hw hl
  replace hf := (fX11_readEye_117.eq_1 ..).symm.trans hf
  refine lv_aload_n C.1 C.2.1 dX11_readEye_117 rfl (lv_at hl 0 rfl) ?_
  refine lv_iconst (v := 0) C.1 C.2.1 dX11_readEye_118 (by decide) ?_
  refine lv_bipush (v := 9) C.1 C.2.1 dX11_readEye_119 (by decide) ?_
  obtain ⟨r2, M3, he1, hf⟩ := ea_ci_s hf
  refine ea_runi2 hw (cl_X11_196 C hw (hY 100 11 rfl) (As := [.int (0 : Int32), .int (9 : Int32)]) (rest := []) (mX11_readNumber (l := l) (E := E) (ids := ids) hY he1) (by decide) rfl hl.1 rfl (Nat.le_of_ble_eq_true rfl) dX11_readEye_121 ⟨Nat.le_refl _, Nat.le_refl _⟩) (fun H locs hw => ?_)
  refine lv_if_ne (tgt := 129) C.1 C.2.1 dX11_readEye_124 (by decide) (fun hc4 => ?_) (fun hc4 => ?_)
  · replace hf := ea_if_f hc4 hf
    refine lv_aload_n C.1 C.2.1 dX11_readEye_129 rfl (lv_at hl 0 rfl) ?_
    refine gf_X11_40 C hw (hY 100 11 rfl) dX11_readEye_130 ?_
    refine W.eq (g2 := F0 m 133 ls [.ref (E.1 109)]) rfl ?_
    refine lv_bipush (v := 9) C.1 C.2.1 dX11_readEye_133 (by decide) ?_
    refine lv_iconst (v := 2) C.1 C.2.1 dX11_readEye_135 (by decide) ?_
    refine lv_iload_n C.1 C.2.1 dX11_readEye_136 rfl (lv_at hl 1 rfl) ?_
    refine lv_iadd C.1 C.2.1 dX11_readEye_137 ?_
    refine lv_imul C.1 C.2.1 dX11_readEye_138 ?_
    refine lv_iload_n C.1 C.2.1 dX11_readEye_139 rfl (lv_at hl 2 rfl) ?_
    refine lv_iadd C.1 C.2.1 dX11_readEye_140 ?_
    refine lv_aload_n C.1 C.2.1 dX11_readEye_141 rfl (lv_at hl 0 rfl) ?_
    refine gf_X11_176 C hw (hY 100 11 rfl) dX11_readEye_142 ?_
    obtain ⟨hc5, hf⟩ := ea_ck_s hf
    refine ea_iast C hw (show ea_ok ids 109 20 from ok_11_19 (hY 100 11 rfl)) hc5 dX11_readEye_145 (fun H locs hw => ?_)
    refine lv_iinc (v := x2 + (1 : Int32)) (lv' := [(2, .int (x2 + (1 : Int32))), (0, .ref (E.1 100)), (1, .int x1)]) C.1 C.2.1 dX11_readEye_146 hl (k := 2) rfl rfl (by decide) rfl (fun ls hl => ?_)
    refine lv_goto (tgt := 86) C.1 C.2.1 dX11_readEye_149 (by decide) ?_
    exact hk86 _ _ _ _ _ _ hf hw (lv_sub hl [1, 2, 0] rfl)
  · replace hf := ea_if_t hc4 hf
    refine lv_iconst (v := 0) C.1 C.2.1 dX11_readEye_127 (by decide) ?_
    exact ea_zret C hw (by decide) hf dX11_readEye_128
set_option maxHeartbeats 4000000 in
set_option maxRecDepth 20000 in
theorem wX11_readEye_86 (C : ea_C p s m args meth cd cX11_readEye 3 (some .boolean) RX11) (hY : ea_Y ids) {k107 : eM → Option (Int32 × eM)} (hk107 : ∀  (M : eM) (H : Heap) (locs : List Loc) (ls : Array Slot), k107 M = some res → ea_w E ids M s H locs → lv_has ls 3 [(0, .ref (E.1 100))] → W p l e (ea_rm 7 157) s m args below meth cd H locs 0 0 (MQ below (ea_Qi E ids res) args s 0 0 (ea_Ad E ids)) (F0 m 107 ls [])) {k152 : eM → Option (Int32 × eM)} (hk152 : ∀  (M : eM) (H : Heap) (locs : List Loc) (ls : Array Slot), k152 M = some res → ea_w E ids M s H locs → lv_has ls 3 [(0, .ref (E.1 100))] → W p l e (ea_rm 7 157) s m args below meth cd H locs 0 0 (MQ below (ea_Qi E ids res) args s 0 0 (ea_Ad E ids)) (F0 m 152 ls [])) : ∀ (n : Nat) (x1 : Int32) (x2 : Int32) (M : eM) (H : Heap) (locs : List Loc) (ls : Array Slot), fX11_readEye_86 k107 k152 n x1 x2 M = some res → ea_w E ids M s H locs → lv_has ls 3 [(0, .ref (E.1 100)), (1, .int x1), (2, .int x2)] → W p l e (ea_rm 7 157) s m args below meth cd H locs 0 0 (MQ below (ea_Qi E ids res) args s 0 0 (ea_Ad E ids)) (F0 m 86 ls []) := by
  intro n
  induction n with
  | zero => intro x1 x2 M H locs ls hf; cases hf
  | succ n ih =>
    intro x1 x2 M H locs ls hf  hw hl
    replace hf := (fX11_readEye_86.eq_2 ..).symm.trans hf
    refine lv_iload_n C.1 C.2.1 dX11_readEye_86 rfl (lv_at hl 2 rfl) ?_
    refine lv_bipush (v := 9) C.1 C.2.1 dX11_readEye_87 (by decide) ?_
    refine lv_icmp_ge (tgt := 152) C.1 C.2.1 dX11_readEye_89 (by decide) (fun hc1 => ?_) (fun hc1 => ?_)
    · replace hf := ea_if_t hc1 hf
      exact hk152 _ _ _ _ hf hw (lv_sub hl [0] rfl)
    · replace hf := ea_if_f hc1 hf
      refine lv_iload_n C.1 C.2.1 dX11_readEye_92 rfl (lv_at hl 2 rfl) ?_
      refine lv_iconst (v := 3) C.1 C.2.1 dX11_readEye_93 (by decide) ?_
      refine lv_irem C.1 C.2.1 dX11_readEye_94 (by decide) ?_
      refine lv_if_ne (tgt := 117) C.1 C.2.1 dX11_readEye_95 (by decide) (fun hc2 => ?_) (fun hc2 => ?_)
      · replace hf := ea_if_f hc2 hf
        exact wX11_readEye_117 C hY ih _ _ _ _ _ _ hf hw (lv_sub hl [0, 1, 2] rfl)
      · replace hf := ea_if_t hc2 hf
        refine lv_aload_n C.1 C.2.1 dX11_readEye_98 rfl (lv_at hl 0 rfl) ?_
        refine lv_bipush (v := 9) C.1 C.2.1 dX11_readEye_99 (by decide) ?_
        obtain ⟨r4, M5, he3, hf⟩ := ea_ci_s hf
        refine ea_runi2 hw (cl_X11_200 C hw (hY 100 11 rfl) (As := [.int (9 : Int32)]) (rest := []) (mX11_isKey (l := l) (E := E) (ids := ids) hY he3) (by decide) rfl hl.1 rfl (Nat.le_of_ble_eq_true rfl) dX11_readEye_101 ⟨Nat.le_refl _, Nat.le_refl _⟩) (fun H locs hw => ?_)
        refine lv_if_ne (tgt := 113) C.1 C.2.1 dX11_readEye_104 (by decide) (fun hc6 => ?_) (fun hc6 => ?_)
        · replace hf := ea_if_f hc6 hf
          refine lv_aload_n C.1 C.2.1 dX11_readEye_113 rfl (lv_at hl 0 rfl) ?_
          obtain ⟨M8, he7, hf⟩ := ea_cv_s hf
          refine ea_runv hw (cl_X11_179 C hw (hY 100 11 rfl) (As := []) (rest := []) (mX11_scan (l := l) (E := E) (ids := ids) hY he7) (by decide) rfl hl.1 rfl (Nat.le_of_ble_eq_true rfl) dX11_readEye_114 ⟨Nat.le_refl _, Nat.le_refl _⟩) (fun H locs hw => ?_)
          exact wX11_readEye_117 C hY ih _ _ _ _ _ _ hf hw (lv_sub hl [0, 1, 2] rfl)
        · replace hf := ea_if_t hc6 hf
          exact hk107 _ _ _ _ hf hw (lv_sub hl [0] rfl)
set_option maxHeartbeats 4000000 in
set_option maxRecDepth 20000 in
theorem wX11_readEye_107 (C : ea_C p s m args meth cd cX11_readEye 3 (some .boolean) RX11) (hY : ea_Y ids) : ∀  (M : eM) (H : Heap) (locs : List Loc) (ls : Array Slot), fX11_readEye_107 M = some res → ea_w E ids M s H locs → lv_has ls 3 [(0, .ref (E.1 100))] → W p l e (ea_rm 7 157) s m args below meth cd H locs 0 0 (MQ below (ea_Qi E ids res) args s 0 0 (ea_Ad E ids)) (F0 m 107 ls []) := by
  intro M H locs ls hf  hw hl
  replace hf := (fX11_readEye_107.eq_1 ..).symm.trans hf
  refine lv_aload_n C.1 C.2.1 dX11_readEye_107 rfl (lv_at hl 0 rfl) ?_
  refine lv_iconst (v := 1) C.1 C.2.1 dX11_readEye_108 (by decide) ?_
  obtain ⟨r2, M3, he1, hf⟩ := ea_ci_s hf
  refine ea_runi2 hw (cl_X11_169 C hw (hY 100 11 rfl) (As := [.int (1 : Int32)]) (rest := []) (mX11_fails (l := l) (E := E) (ids := ids) hY he1) (by decide) rfl hl.1 rfl (Nat.le_of_ble_eq_true rfl) dX11_readEye_109 ⟨Nat.le_refl _, Nat.le_refl _⟩) (fun H locs hw => ?_)
  obtain ⟨hc4, hf⟩ := ea_ck_s hf
  exact ea_zret C hw (ea_01_s hc4) hf dX11_readEye_112
set_option maxHeartbeats 4000000 in
set_option maxRecDepth 20000 in
theorem wX11_readEye_152 (C : ea_C p s m args meth cd cX11_readEye 3 (some .boolean) RX11) (hY : ea_Y ids) : ∀  (M : eM) (H : Heap) (locs : List Loc) (ls : Array Slot), fX11_readEye_152 M = some res → ea_w E ids M s H locs → lv_has ls 3 [(0, .ref (E.1 100))] → W p l e (ea_rm 7 157) s m args below meth cd H locs 0 0 (MQ below (ea_Qi E ids res) args s 0 0 (ea_Ad E ids)) (F0 m 152 ls []) := by
  intro M H locs ls hf  hw hl
  replace hf := (fX11_readEye_152.eq_1 ..).symm.trans hf
  refine lv_aload_n C.1 C.2.1 dX11_readEye_152 rfl (lv_at hl 0 rfl) ?_
  refine gf_X11_17 C hw (hY 100 11 rfl) dX11_readEye_153 ?_
  refine W.eq (g2 := F0 m 156 ls [.ref (E.1 102)]) rfl ?_
  refine lv_bipush (v := 20) C.1 C.2.1 dX11_readEye_156 (by decide) ?_
  refine lv_dup2_11 C.1 C.2.1 dX11_readEye_158 rfl rfl ?_
  refine ea_iald C hw (show ea_ok ids 102 20 from ok_11_12 (hY 100 11 rfl)) (by decide) dX11_readEye_159 ?_
  refine lv_iconst (v := 1) C.1 C.2.1 dX11_readEye_160 (by decide) ?_
  refine lv_iadd C.1 C.2.1 dX11_readEye_161 ?_
  refine ea_iast C hw (show ea_ok ids 102 20 from ok_11_12 (hY 100 11 rfl)) (by decide) dX11_readEye_162 (fun H locs hw => ?_)
  refine lv_iconst (v := 1) C.1 C.2.1 dX11_readEye_163 (by decide) ?_
  exact ea_zret C hw (by decide) hf dX11_readEye_164
set_option maxHeartbeats 4000000 in
set_option maxRecDepth 20000 in
theorem wX11_readEye_70 (C : ea_C p s m args meth cd cX11_readEye 3 (some .boolean) RX11) (hY : ea_Y ids) : ∀ (x1 : Int32) (M : eM) (H : Heap) (locs : List Loc) (ls : Array Slot), fX11_readEye_70 x1 M = some res → ea_w E ids M s H locs → lv_has ls 3 [(0, .ref (E.1 100)), (1, .int x1)] → W p l e (ea_rm 7 157) s m args below meth cd H locs 0 0 (MQ below (ea_Qi E ids res) args s 0 0 (ea_Ad E ids)) (F0 m 70 ls []) := by
  intro x1 M H locs ls hf  hw hl
  replace hf := (fX11_readEye_70.eq_1 ..).symm.trans hf
  refine lv_aload_n C.1 C.2.1 dX11_readEye_70 rfl (lv_at hl 0 rfl) ?_
  refine gf_X11_28 C hw (hY 100 11 rfl) dX11_readEye_71 ?_
  refine W.eq (g2 := F0 m 74 ls [.ref (E.1 105)]) rfl ?_
  refine lv_iload_n C.1 C.2.1 dX11_readEye_74 rfl (lv_at hl 1 rfl) ?_
  refine lv_aload_n C.1 C.2.1 dX11_readEye_75 rfl (lv_at hl 0 rfl) ?_
  refine gf_X11_148 C hw (hY 100 11 rfl) dX11_readEye_76 ?_
  obtain ⟨hc1, hf⟩ := ea_ck_s hf
  refine ea_last C hw (show ea_ok ids 105 21 from ok_11_15 (hY 100 11 rfl)) hc1 dX11_readEye_79 (fun H locs hw => ?_)
  refine lv_aload_n C.1 C.2.1 dX11_readEye_80 rfl (lv_at hl 0 rfl) ?_
  obtain ⟨M3, he2, hf⟩ := ea_cv_s hf
  refine ea_runv hw (cl_X11_179 C hw (hY 100 11 rfl) (As := []) (rest := []) (mX11_scan (l := l) (E := E) (ids := ids) hY he2) (by decide) rfl hl.1 rfl (Nat.le_of_ble_eq_true rfl) dX11_readEye_81 ⟨Nat.le_refl _, Nat.le_refl _⟩) (fun H locs hw => ?_)
  refine lv_iconst (v := 0) C.1 C.2.1 dX11_readEye_84 (by decide) ?_
  refine lv_istore_n (lv' := [(2, .int (0 : Int32)), (0, .ref (E.1 100)), (1, .int x1)]) C.1 C.2.1 dX11_readEye_85 rfl hl (by decide) rfl (fun ls hl => ?_)
  exact wX11_readEye_86 C hY (wX11_readEye_107 C hY) (wX11_readEye_152 C hY) ea_N _ _ _ _ _ _ hf hw (lv_sub hl [1, 2, 0] rfl)
set_option maxHeartbeats 4000000 in
set_option maxRecDepth 20000 in
theorem wX11_readEye_0 (C : ea_C p s m args meth cd cX11_readEye 3 (some .boolean) RX11) (hY : ea_Y ids) : ∀  (M : eM) (H : Heap) (locs : List Loc) (ls : Array Slot), fX11_readEye_0 M = some res → ea_w E ids M s H locs → lv_has ls 3 [(0, .ref (E.1 100))] → W p l e (ea_rm 7 157) s m args below meth cd H locs 0 0 (MQ below (ea_Qi E ids res) args s 0 0 (ea_Ad E ids)) (F0 m 0 ls []) := by
  intro M H locs ls hf  hw hl
  replace hf := (fX11_readEye_0.eq_1 ..).symm.trans hf
  refine lv_aload_n C.1 C.2.1 dX11_readEye_0 rfl (lv_at hl 0 rfl) ?_
  refine gf_X11_17 C hw (hY 100 11 rfl) dX11_readEye_1 ?_
  refine W.eq (g2 := F0 m 4 ls [.ref (E.1 102)]) rfl ?_
  refine lv_bipush (v := 20) C.1 C.2.1 dX11_readEye_4 (by decide) ?_
  refine ea_iald C hw (show ea_ok ids 102 20 from ok_11_12 (hY 100 11 rfl)) (by decide) dX11_readEye_6 ?_
  obtain ⟨y1, ey2, hf⟩ := ea_lt_s hf
  refine ea_topi ey2 ?_
  refine lv_istore_n (lv' := [(1, .int y1), (0, .ref (E.1 100))]) C.1 C.2.1 dX11_readEye_7 rfl hl (by decide) rfl (fun ls hl => ?_)
  refine lv_iload_n C.1 C.2.1 dX11_readEye_8 rfl (lv_at hl 0 rfl) ?_
  refine lv_iconst (v := 2) C.1 C.2.1 dX11_readEye_9 (by decide) ?_
  refine lv_icmp_ne (tgt := 19) C.1 C.2.1 dX11_readEye_10 (by decide) (fun hc3 => ?_) (fun hc3 => ?_)
  · replace hf := ea_if_f hc3 hf
    refine lv_aload_n C.1 C.2.1 dX11_readEye_19 rfl (lv_at hl 1 rfl) ?_
    obtain ⟨M5, he4, hf⟩ := ea_cv_s hf
    refine ea_runv hw (cl_X11_179 C hw (hY 100 11 rfl) (As := []) (rest := []) (mX11_scan (l := l) (E := E) (ids := ids) hY he4) (by decide) rfl hl.1 rfl (Nat.le_of_ble_eq_true rfl) dX11_readEye_20 ⟨Nat.le_refl _, Nat.le_refl _⟩) (fun H locs hw => ?_)
    refine lv_aload_n C.1 C.2.1 dX11_readEye_23 rfl (lv_at hl 1 rfl) ?_
    refine gf_X11_141 C hw (hY 100 11 rfl) dX11_readEye_24 ?_
    refine lv_iconst (v := 1) C.1 C.2.1 dX11_readEye_27 (by decide) ?_
    refine lv_icmp_eq (tgt := 37) C.1 C.2.1 dX11_readEye_28 (by decide) (fun hc6 => ?_) (fun hc6 => ?_)
    · replace hf := ea_if_t hc6 hf
      refine lv_iconst (v := 0) C.1 C.2.1 dX11_readEye_37 (by decide) ?_
      refine lv_istore_n (lv' := [(2, .int (0 : Int32)), (1, .int y1), (0, .ref (E.1 100))]) C.1 C.2.1 dX11_readEye_38 rfl hl (by decide) rfl (fun ls hl => ?_)
      exact wX11_readEye_39 C hY (wX11_readEye_58 C hY) (wX11_readEye_70 C hY) ea_N _ _ _ _ _ _ hf hw (lv_sub hl [2, 1, 0] rfl)
    · replace hf := ea_if_f hc6 hf
      refine lv_aload_n C.1 C.2.1 dX11_readEye_31 rfl (lv_at hl 1 rfl) ?_
      refine lv_iconst (v := 1) C.1 C.2.1 dX11_readEye_32 (by decide) ?_
      obtain ⟨r8, M9, he7, hf⟩ := ea_ci_s hf
      refine ea_runi2 hw (cl_X11_169 C hw (hY 100 11 rfl) (As := [.int (1 : Int32)]) (rest := []) (mX11_fails (l := l) (E := E) (ids := ids) hY he7) (by decide) rfl hl.1 rfl (Nat.le_of_ble_eq_true rfl) dX11_readEye_33 ⟨Nat.le_refl _, Nat.le_refl _⟩) (fun H locs hw => ?_)
      obtain ⟨hc10, hf⟩ := ea_ck_s hf
      exact ea_zret C hw (ea_01_s hc10) hf dX11_readEye_36
  · replace hf := ea_if_t hc3 hf
    refine lv_aload_n C.1 C.2.1 dX11_readEye_13 rfl (lv_at hl 1 rfl) ?_
    refine lv_iconst (v := 4) C.1 C.2.1 dX11_readEye_14 (by decide) ?_
    obtain ⟨r12, M13, he11, hf⟩ := ea_ci_s hf
    refine ea_runi2 hw (cl_X11_169 C hw (hY 100 11 rfl) (As := [.int (4 : Int32)]) (rest := []) (mX11_fails (l := l) (E := E) (ids := ids) hY he11) (by decide) rfl hl.1 rfl (Nat.le_of_ble_eq_true rfl) dX11_readEye_15 ⟨Nat.le_refl _, Nat.le_refl _⟩) (fun H locs hw => ?_)
    obtain ⟨hc14, hf⟩ := ea_ck_s hf
    exact ea_zret C hw (ea_01_s hc14) hf dX11_readEye_18
set_option maxHeartbeats 4000000 in
set_option maxRecDepth 20000 in
theorem mX11_readEye {l : Launch} {E : eE} {ids : List Nat} (hY : ea_Y ids) {M : eM} {res : Int32 × eM} (hf : fX11_readEye M = some res) : ea_Mi l yX11_readEye cX11_readEye 3 (some .boolean) 7 157 E ids [.ref (E.1 100)] M res := by
  refine ea_goi (by decide) (Nat.le_of_ble_eq_true rfl) wc_X11_readEye ?_
  intro p e s m below meth cd ls C hw hl
  exact wX11_readEye_0 C hY  _ _ _ _ hf hw hl
end SX11_readEye
