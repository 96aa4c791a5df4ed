def fX11_take_24 (k57 : eM → Option (Int32 × eM)) : Nat → Int32 → Int32 → eM → Option (Int32 × eM)
  | 0, _, _, _ => none
  | n + 1, x1, x2, M => if (854 : Int32) ≤ x2 then (k57 M) else (ea_ck (ea_ix (((854 : Int32) * (x1 + (1 : Int32))) + x2) (ea_len 114)) (ea_ck (ea_ix x2 (ea_len 114)) (fX11_take_24 k57 n x1 (x2 + (1 : Int32)) (ea_pI M 114 (x2.toNatClampNeg) (M.1 114 (((854 : Int32) * (x1 + (1 : Int32))) + x2).toNatClampNeg)))))
def fX11_take_57 (M : eM) : Option (Int32 × eM) := some (M.1 114 (0 : Int32).toNatClampNeg, M)
def fX11_take_0 (x1 : Int32) (M : eM) : Option (Int32 × eM) := ea_ci (fX11_isSlot x1 M) (fun r2 M3 => if r2 = 0 then (some ((-2 : Int32), M3)) else (ea_ck (ea_ix x1 (ea_len 115)) (if (M3.1 115 x1.toNatClampNeg) = 0 then (some ((-4 : Int32), M3)) else (fX11_take_24 (fX11_take_57) ea_N x1 (0 : Int32) M3))))
def fX11_take (x1 : Int32) (M : eM) : Option (Int32 × eM) := fX11_take_0 x1 M
section SX11_take
variable {p : Program} {l : Launch} {e : Env} {s : State} {m : MethodId} {args : Array Value} {below : List Frame} {meth : Method} {cd : Code} {E : eE} {ids : List Nat} {res : Int32 × eM}
set_option maxHeartbeats 4000000 in
set_option maxRecDepth 20000 in
theorem wX11_take_24 (C : ea_C p s m args meth cd cX11_take 3 (some .int) RX11) (hY : ea_Y ids) {k57 : eM → Option (Int32 × eM)} (hk57 : ∀  (M : eM) (H : Heap) (locs : List Loc) (ls : Array Slot), k57 M = some res → ea_w E ids M s H locs → lv_has ls 3 [(0, .ref (E.1 100))] → W p l e (ea_rm 2 42) s m args below meth cd H locs 0 0 (MQ below (ea_Qi E ids res) args s 0 0 (ea_Ad E ids)) (F0 m 57 ls [])) : ∀ (n : Nat) (x1 : Int32) (x2 : Int32) (M : eM) (H : Heap) (locs : List Loc) (ls : Array Slot), fX11_take_24 k57 n x1 x2 M = some res → ea_w E ids M s H locs → lv_has ls 3 [(0, .ref (E.1 100)), (1, .int x1), (2, .int x2)] → W p l e (ea_rm 2 42) s m args below meth cd H locs 0 0 (MQ below (ea_Qi E ids res) args s 0 0 (ea_Ad E ids)) (F0 m 24 ls []) := by
  intro n
  induction n with
  | zero => intro x1 x2 M H locs ls hf; cases hf
  | succ n ih =>
    intro x1 x2 M H locs ls hf  hw hl
    replace hf := (fX11_take_24.eq_2 ..).symm.trans hf
    refine lv_iload_n C.1 C.2.1 dX11_take_24 rfl (lv_at hl 2 rfl) ?_
    refine lv_sipush (v := 854) C.1 C.2.1 dX11_take_25 (by decide) ?_
    refine lv_icmp_ge (tgt := 57) C.1 C.2.1 dX11_take_28 (by decide) (fun hc1 => ?_) (fun hc1 => ?_)
    · replace hf := ea_if_t hc1 hf
      exact hk57 _ _ _ _ hf hw (lv_sub hl [0] rfl)
    · replace hf := ea_if_f hc1 hf
      refine lv_aload_n C.1 C.2.1 dX11_take_31 rfl (lv_at hl 0 rfl) ?_
      refine gf_X11_55 C hw (hY 100 11 rfl) dX11_take_32 ?_
      refine W.eq (g2 := F0 m 35 ls [.ref (E.1 114)]) rfl ?_
      refine lv_iload_n C.1 C.2.1 dX11_take_35 rfl (lv_at hl 2 rfl) ?_
      refine lv_aload_n C.1 C.2.1 dX11_take_36 rfl (lv_at hl 0 rfl) ?_
      refine gf_X11_55 C hw (hY 100 11 rfl) dX11_take_37 ?_
      refine W.eq (g2 := F0 m 40 ls [.ref (E.1 114), .int x2, .ref (E.1 114)]) rfl ?_
      refine lv_sipush (v := 854) C.1 C.2.1 dX11_take_40 (by decide) ?_
      refine lv_iload_n C.1 C.2.1 dX11_take_43 rfl (lv_at hl 1 rfl) ?_
      refine lv_iconst (v := 1) C.1 C.2.1 dX11_take_44 (by decide) ?_
      refine lv_iadd C.1 C.2.1 dX11_take_45 ?_
      refine lv_imul C.1 C.2.1 dX11_take_46 ?_
      refine lv_iload_n C.1 C.2.1 dX11_take_47 rfl (lv_at hl 2 rfl) ?_
      refine lv_iadd C.1 C.2.1 dX11_take_48 ?_
      obtain ⟨hc2, hf⟩ := ea_ck_s hf
      refine ea_iald C hw (show ea_ok ids 114 20 from ok_11_27 (hY 100 11 rfl)) hc2 dX11_take_49 ?_
      obtain ⟨hc3, hf⟩ := ea_ck_s hf
      refine ea_iast C hw (show ea_ok ids 114 20 from ok_11_27 (hY 100 11 rfl)) hc3 dX11_take_50 (fun H locs hw => ?_)
      refine lv_iinc (v := x2 + (1 : Int32)) (lv' := [(2, .int (x2 + (1 : Int32))), (0, .ref (E.1 100)), (1, .int x1)]) C.1 C.2.1 dX11_take_51 hl (k := 2) rfl rfl (by decide) rfl (fun ls hl => ?_)
      refine lv_goto (tgt := 24) C.1 C.2.1 dX11_take_54 (by decide) ?_
      exact ih _ _ _ _ _ _ hf hw (lv_sub hl [1, 2, 0] rfl)
set_option maxHeartbeats 4000000 in
set_option maxRecDepth 20000 in
theorem wX11_take_57 (C : ea_C p s m args meth cd cX11_take 3 (some .int) RX11) (hY : ea_Y ids) : ∀  (M : eM) (H : Heap) (locs : List Loc) (ls : Array Slot), fX11_take_57 M = some res → ea_w E ids M s H locs → lv_has ls 3 [(0, .ref (E.1 100))] → W p l e (ea_rm 2 42) s m args below meth cd H locs 0 0 (MQ below (ea_Qi E ids res) args s 0 0 (ea_Ad E ids)) (F0 m 57 ls []) := by
  intro M H locs ls hf  hw hl
  replace hf := (fX11_take_57.eq_1 ..).symm.trans hf
  refine lv_aload_n C.1 C.2.1 dX11_take_57 rfl (lv_at hl 0 rfl) ?_
  refine gf_X11_55 C hw (hY 100 11 rfl) dX11_take_58 ?_
  refine W.eq (g2 := F0 m 61 ls [.ref (E.1 114)]) rfl ?_
  refine lv_iconst (v := 0) C.1 C.2.1 dX11_take_61 (by decide) ?_
  refine ea_iald C hw (show ea_ok ids 114 20 from ok_11_27 (hY 100 11 rfl)) (by decide) dX11_take_62 ?_
  exact ea_iret C hw hf dX11_take_63
set_option maxHeartbeats 4000000 in
set_option maxRecDepth 20000 in
theorem wX11_take_0 (C : ea_C p s m args meth cd cX11_take 3 (some .int) RX11) (hY : ea_Y ids) : ∀ (x1 : Int32) (M : eM) (H : Heap) (locs : List Loc) (ls : Array Slot), fX11_take_0 x1 M = some res → ea_w E ids M s H locs → lv_has ls 3 [(0, .ref (E.1 100)), (1, .int x1)] → W p l e (ea_rm 2 42) s m args below meth cd H locs 0 0 (MQ below (ea_Qi E ids res) args s 0 0 (ea_Ad E ids)) (F0 m 0 ls []) := by
  intro x1 M H locs ls hf  hw hl
  replace hf := (fX11_take_0.eq_1 ..).symm.trans hf
  refine lv_iload_n C.1 C.2.1 dX11_take_0 rfl (lv_at hl 1 rfl) ?_
  obtain ⟨r2, M3, he1, hf⟩ := ea_ci_s hf
  refine ea_runi2 hw (cl_X11_280 C hw (As := [.int x1]) (rest := []) (mX11_isSlot (l := l) (E := E) (ids := ids) hY he1) (by decide) rfl hl.1 rfl (Nat.le_of_ble_eq_true rfl) dX11_take_1 ⟨Nat.le_refl _, Nat.le_refl _⟩) (fun H locs hw => ?_)
  refine lv_if_ne (tgt := 10) C.1 C.2.1 dX11_take_4 (by decide) (fun hc4 => ?_) (fun hc4 => ?_)
  · replace hf := ea_if_f hc4 hf
    refine lv_aload_n C.1 C.2.1 dX11_take_10 rfl (lv_at hl 0 rfl) ?_
    refine gf_X11_58 C hw (hY 100 11 rfl) dX11_take_11 ?_
    refine W.eq (g2 := F0 m 14 ls [.ref (E.1 115)]) rfl ?_
    refine lv_iload_n C.1 C.2.1 dX11_take_14 rfl (lv_at hl 1 rfl) ?_
    obtain ⟨hc5, hf⟩ := ea_ck_s hf
    refine ea_zald C hw (show ea_ok ids 115 23 from ok_11_28 (hY 100 11 rfl)) hc5 dX11_take_15 ?_
    refine lv_if_ne (tgt := 22) C.1 C.2.1 dX11_take_16 (by decide) (fun hc6 => ?_) (fun hc6 => ?_)
    · replace hf := ea_if_f hc6 hf
      refine lv_iconst (v := 0) C.1 C.2.1 dX11_take_22 (by decide) ?_
      refine lv_istore_n (lv' := [(2, .int (0 : Int32)), (0, .ref (E.1 100)), (1, .int x1)]) C.1 C.2.1 dX11_take_23 rfl hl (by decide) rfl (fun ls hl => ?_)
      exact wX11_take_24 C hY (wX11_take_57 C hY) ea_N _ _ _ _ _ _ hf hw (lv_sub hl [1, 2, 0] rfl)
    · replace hf := ea_if_t hc6 hf
      refine lv_bipush (v := (-4 : Int32)) C.1 C.2.1 dX11_take_19 (by decide) ?_
      exact ea_iret C hw hf dX11_take_21
  · replace hf := ea_if_t hc4 hf
    refine lv_bipush (v := (-2 : Int32)) C.1 C.2.1 dX11_take_7 (by decide) ?_
    exact ea_iret C hw hf dX11_take_9
set_option maxHeartbeats 4000000 in
set_option maxRecDepth 20000 in
theorem mX11_take {l : Launch} {E : eE} {ids : List Nat} (hY : ea_Y ids) {x1 : Int32} {M : eM} {res : Int32 × eM} (hf : fX11_take x1 M = some res) : ea_Mi l yX11_take cX11_take 3 (some .int) 2 42 E ids [.ref (E.1 100), .int x1] M res := by
  refine ea_goi (by decide) (Nat.le_of_ble_eq_true rfl) wc_X11_take ?_
  intro p e s m below meth cd ls C hw hl
  exact wX11_take_0 C hY _ _ _ _ _ hf hw hl
end SX11_take

def fX11_thrown_0 (x1 : Int32) (x2 : Int32) (x3 : Int32) (x4 : Int32) (x5 : Int32) (M : eM) : Option (Int32 × eM) := ea_ci (fX11_isCell x1 M) (fun r2 M3 => if r2 = 0 then (some ((-2 : Int32), M3)) else (ea_ci (fX11_isEye x2 M3) (fun r6 M7 => if r6 = 0 then (some ((-2 : Int32), M7)) else (ea_ci (fX11_isStory x3 M7) (fun r10 M11 => if r10 = 0 then (some ((-2 : Int32), M11)) else (ea_ci (fX11_isBound x4 M11) (fun r14 M15 => if r14 = 0 then (some ((-2 : Int32), M15)) else (ea_ci (fX11_in x5 (0 : Int32) (3 : Int32) M15) (fun r18 M19 => if r18 = 0 then (some ((-2 : Int32), M19)) else (ea_ci (fX11_frontOf x1 M19) (fun r22 M23 => if 0 ≤ r22 then (ea_cv (fX11_throwLight x1 r22 x2 x3 x4 M23) (fun M26 => if x5 = (3 : Int32) then (some (M26.1 100 46, M26)) else (ea_ck (ea_ix x5 (ea_len 129)) (some (M26.1 129 x5.toNatClampNeg, M26))))) else (some ((-1 : Int32), M23)))))))))))))
def fX11_thrown (x1 : Int32) (x2 : Int32) (x3 : Int32) (x4 : Int32) (x5 : Int32) (M : eM) : Option (Int32 × eM) := fX11_thrown_0 x1 x2 x3 x4 x5 M
section SX11_thrown
variable {p : Program} {l : Launch} {e : Env} {s : State} {m : MethodId} {args : Array Value} {below : List Frame} {meth : Method} {cd : Code} {E : eE} {ids : List Nat} {res : Int32 × eM}
set_option maxHeartbeats 4000000 in
set_option maxRecDepth 20000 in
theorem wX11_thrown_0 (C : ea_C p s m args meth cd cX11_thrown 7 (some .int) RX11) (hY : ea_Y ids) : ∀ (x1 : Int32) (x2 : Int32) (x3 : Int32) (x4 : Int32) (x5 : Int32) (M : eM) (H : Heap) (locs : List Loc) (ls : Array Slot), fX11_thrown_0 x1 x2 x3 x4 x5 M = some res → ea_w E ids M s H locs → lv_has ls 7 [(0, .ref (E.1 100)), (1, .int x1), (2, .int x2), (3, .int x3), (4, .int x4), (5, .int x5)] → W p l e (ea_rm 7 175) s m args below meth cd H locs 0 0 (MQ below (ea_Qi E ids res) args s 0 0 (ea_Ad E ids)) (F0 m 0 ls []) := by
  intro x1 x2 x3 x4 x5 M H locs ls hf  hw hl
  replace hf := (fX11_thrown_0.eq_1 ..).symm.trans hf
  refine lv_aload_n C.1 C.2.1 dX11_thrown_0 rfl (lv_at hl 0 rfl) ?_
  refine lv_iload_n C.1 C.2.1 dX11_thrown_1 rfl (lv_at hl 1 rfl) ?_
  obtain ⟨r2, M3, he1, hf⟩ := ea_ci_s hf
  refine ea_runi2 hw (cl_X11_264 C hw (hY 100 11 rfl) (As := [.int x1]) (rest := []) (mX11_isCell (l := l) (E := E) (ids := ids) hY he1) (by decide) rfl hl.1 rfl (Nat.le_of_ble_eq_true rfl) dX11_thrown_2 ⟨Nat.le_refl _, Nat.le_refl _⟩) (fun H locs hw => ?_)
  refine lv_if_eq (tgt := 42) C.1 C.2.1 dX11_thrown_5 (by decide) (fun hc4 => ?_) (fun hc4 => ?_)
  · replace hf := ea_if_t hc4 hf
    refine lv_bipush (v := (-2 : Int32)) C.1 C.2.1 dX11_thrown_42 (by decide) ?_
    exact ea_iret C hw hf dX11_thrown_44
  · replace hf := ea_if_f hc4 hf
    refine lv_aload_n C.1 C.2.1 dX11_thrown_8 rfl (lv_at hl 0 rfl) ?_
    refine lv_iload_n C.1 C.2.1 dX11_thrown_9 rfl (lv_at hl 2 rfl) ?_
    obtain ⟨r6, M7, he5, hf⟩ := ea_ci_s hf
    refine ea_runi2 hw (cl_X11_345 C hw (hY 100 11 rfl) (As := [.int x2]) (rest := []) (mX11_isEye (l := l) (E := E) (ids := ids) hY he5) (by decide) rfl hl.1 rfl (Nat.le_of_ble_eq_true rfl) dX11_thrown_10 ⟨Nat.le_refl _, Nat.le_refl _⟩) (fun H locs hw => ?_)
    refine lv_if_eq (tgt := 42) C.1 C.2.1 dX11_thrown_13 (by decide) (fun hc8 => ?_) (fun hc8 => ?_)
    · replace hf := ea_if_t hc8 hf
      refine lv_bipush (v := (-2 : Int32)) C.1 C.2.1 dX11_thrown_42 (by decide) ?_
      exact ea_iret C hw hf dX11_thrown_44
    · replace hf := ea_if_f hc8 hf
      refine lv_aload_n C.1 C.2.1 dX11_thrown_16 rfl (lv_at hl 0 rfl) ?_
      refine lv_iload_n C.1 C.2.1 dX11_thrown_17 rfl (lv_at hl 3 rfl) ?_
      obtain ⟨r10, M11, he9, hf⟩ := ea_ci_s hf
      refine ea_runi2 hw (cl_X11_225 C hw (hY 100 11 rfl) (As := [.int x3]) (rest := []) (mX11_isStory (l := l) (E := E) (ids := ids) hY he9) (by decide) rfl hl.1 rfl (Nat.le_of_ble_eq_true rfl) dX11_thrown_18 ⟨Nat.le_refl _, Nat.le_refl _⟩) (fun H locs hw => ?_)
      refine lv_if_eq (tgt := 42) C.1 C.2.1 dX11_thrown_21 (by decide) (fun hc12 => ?_) (fun hc12 => ?_)
      · replace hf := ea_if_t hc12 hf
        refine lv_bipush (v := (-2 : Int32)) C.1 C.2.1 dX11_thrown_42 (by decide) ?_
        exact ea_iret C hw hf dX11_thrown_44
      · replace hf := ea_if_f hc12 hf
        refine lv_iload C.1 C.2.1 dX11_thrown_24 (lv_at hl 4 rfl) ?_
        obtain ⟨r14, M15, he13, hf⟩ := ea_ci_s hf
        refine ea_runi2 hw (cl_X11_320 C hw (As := [.int x4]) (rest := []) (mX11_isBound (l := l) (E := E) (ids := ids) hY he13) (by decide) rfl hl.1 rfl (Nat.le_of_ble_eq_true rfl) dX11_thrown_26 ⟨Nat.le_refl _, Nat.le_refl _⟩) (fun H locs hw => ?_)
        refine lv_if_eq (tgt := 42) C.1 C.2.1 dX11_thrown_29 (by decide) (fun hc16 => ?_) (fun hc16 => ?_)
        · replace hf := ea_if_t hc16 hf
          refine lv_bipush (v := (-2 : Int32)) C.1 C.2.1 dX11_thrown_42 (by decide) ?_
          exact ea_iret C hw hf dX11_thrown_44
        · replace hf := ea_if_f hc16 hf
          refine lv_iload C.1 C.2.1 dX11_thrown_32 (lv_at hl 5 rfl) ?_
          refine lv_iconst (v := 0) C.1 C.2.1 dX11_thrown_34 (by decide) ?_
          refine lv_iconst (v := 3) C.1 C.2.1 dX11_thrown_35 (by decide) ?_
          obtain ⟨r18, M19, he17, hf⟩ := ea_ci_s hf
          refine ea_runi2 hw (cl_X11_172 C hw (As := [.int x5, .int (0 : Int32), .int (3 : Int32)]) (rest := []) (mX11_in (l := l) (E := E) (ids := ids) hY he17) (by decide) rfl hl.1 rfl (Nat.le_of_ble_eq_true rfl) dX11_thrown_36 ⟨Nat.le_refl _, Nat.le_refl _⟩) (fun H locs hw => ?_)
          refine lv_if_ne (tgt := 45) C.1 C.2.1 dX11_thrown_39 (by decide) (fun hc20 => ?_) (fun hc20 => ?_)
          · replace hf := ea_if_f hc20 hf
            refine lv_aload_n C.1 C.2.1 dX11_thrown_45 rfl (lv_at hl 0 rfl) ?_
            refine lv_iload_n C.1 C.2.1 dX11_thrown_46 rfl (lv_at hl 1 rfl) ?_
            obtain ⟨r22, M23, he21, hf⟩ := ea_ci_s hf
            refine ea_runi2 hw (cl_X11_348 C hw (hY 100 11 rfl) (As := [.int x1]) (rest := []) (mX11_frontOf (l := l) (E := E) (ids := ids) hY he21) (by decide) rfl hl.1 rfl (Nat.le_of_ble_eq_true rfl) dX11_thrown_47 ⟨Nat.le_refl _, Nat.le_refl _⟩) (fun H locs hw => ?_)
            refine lv_istore (lv' := [(6, .int r22), (0, .ref (E.1 100)), (1, .int x1), (2, .int x2), (3, .int x3), (4, .int x4), (5, .int x5)]) C.1 C.2.1 dX11_thrown_50 hl (by decide) rfl (fun ls hl => ?_)
            refine lv_iload C.1 C.2.1 dX11_thrown_52 (lv_at hl 0 rfl) ?_
            refine lv_if_ge (tgt := 59) C.1 C.2.1 dX11_thrown_54 (by decide) (fun hc24 => ?_) (fun hc24 => ?_)
            · replace hf := ea_if_t hc24 hf
              refine lv_aload_n C.1 C.2.1 dX11_thrown_59 rfl (lv_at hl 1 rfl) ?_
              refine lv_iload_n C.1 C.2.1 dX11_thrown_60 rfl (lv_at hl 2 rfl) ?_
              refine lv_iload C.1 C.2.1 dX11_thrown_61 (lv_at hl 0 rfl) ?_
              refine lv_iload_n C.1 C.2.1 dX11_thrown_63 rfl (lv_at hl 3 rfl) ?_
              refine lv_iload_n C.1 C.2.1 dX11_thrown_64 rfl (lv_at hl 4 rfl) ?_
              refine lv_iload C.1 C.2.1 dX11_thrown_65 (lv_at hl 5 rfl) ?_
              obtain ⟨M26, he25, hf⟩ := ea_cv_s hf
              refine ea_runv hw (cl_X11_351 C hw (hY 100 11 rfl) (As := [.int x1, .int r22, .int x2, .int x3, .int x4]) (rest := []) (mX11_throwLight (l := l) (E := E) (ids := ids) hY he25) (by decide) rfl hl.1 rfl (Nat.le_of_ble_eq_true rfl) dX11_thrown_67 ⟨Nat.le_refl _, Nat.le_refl _⟩) (fun H locs hw => ?_)
              refine lv_iload C.1 C.2.1 dX11_thrown_70 (lv_at hl 6 rfl) ?_
              refine lv_iconst (v := 3) C.1 C.2.1 dX11_thrown_72 (by decide) ?_
              refine lv_icmp_ne (tgt := 83) C.1 C.2.1 dX11_thrown_73 (by decide) (fun hc27 => ?_) (fun hc27 => ?_)
              · replace hf := ea_if_f hc27 hf
                refine lv_aload_n C.1 C.2.1 dX11_thrown_83 rfl (lv_at hl 1 rfl) ?_
                refine gf_X11_101 C hw (hY 100 11 rfl) dX11_thrown_84 ?_
                refine W.eq (g2 := F0 m 87 ls [.ref (E.1 129)]) rfl ?_
                refine lv_iload C.1 C.2.1 dX11_thrown_87 (lv_at hl 6 rfl) ?_
                obtain ⟨hc28, hf⟩ := ea_ck_s hf
                refine ea_iald C hw (show ea_ok ids 129 20 from ok_11_45 (hY 100 11 rfl)) hc28 dX11_thrown_89 ?_
                exact ea_iret C hw hf dX11_thrown_90
              · replace hf := ea_if_t hc27 hf
                refine lv_aload_n C.1 C.2.1 dX11_thrown_76 rfl (lv_at hl 1 rfl) ?_
                refine gf_X11_342 C hw (hY 100 11 rfl) dX11_thrown_77 ?_
                refine lv_goto (tgt := 90) C.1 C.2.1 dX11_thrown_80 (by decide) ?_
                exact ea_iret C hw hf dX11_thrown_90
            · replace hf := ea_if_f hc24 hf
              refine lv_iconst (v := (-1 : Int32)) C.1 C.2.1 dX11_thrown_57 (by decide) ?_
              exact ea_iret C hw hf dX11_thrown_58
          · replace hf := ea_if_t hc20 hf
            refine lv_bipush (v := (-2 : Int32)) C.1 C.2.1 dX11_thrown_42 (by decide) ?_
            exact ea_iret C hw hf dX11_thrown_44
set_option maxHeartbeats 4000000 in
set_option maxRecDepth 20000 in
theorem mX11_thrown {l : Launch} {E : eE} {ids : List Nat} (hY : ea_Y ids) {x1 : Int32} {x2 : Int32} {x3 : Int32} {x4 : Int32} {x5 : Int32} {M : eM} {res : Int32 × eM} (hf : fX11_thrown x1 x2 x3 x4 x5 M = some res) : ea_Mi l yX11_thrown cX11_thrown 7 (some .int) 7 175 E ids [.ref (E.1 100), .int x1, .int x2, .int x3, .int x4, .int x5] M res := by
  refine ea_goi (by decide) (Nat.le_of_ble_eq_true rfl) wc_X11_thrown ?_
  intro p e s m below meth cd ls C hw hl
  exact wX11_thrown_0 C hY _ _ _ _ _ _ _ _ _ hf hw hl
end SX11_thrown

def fX11_told_211 : Nat → Int32 → Int32 → Int32 → eM → Option (Int32 × eM)
  | 0, _, _, _, _ => none
  | n + 1, x1, x2, x3, M => ea_ck (ea_ix (x1 - (40 : Int32)) (ea_len 107)) (if (M.1 107 (x1 - (40 : Int32)).toNatClampNeg) ≤ x3 then (some (x2, M)) else (ea_ck (ea_ix ((4 : Int32) * (((6 : Int32) * (x1 - (40 : Int32))) + x3)) (ea_len 108)) (ea_lt (x2 + (M.1 108 ((4 : Int32) * (((6 : Int32) * (x1 - (40 : Int32))) + x3)).toNatClampNeg)) (fun y4 => fX11_told_211 n x1 y4 (x3 + (1 : Int32)) M))))
def fX11_told_0 (x1 : Int32) (M : eM) : Option (Int32 × eM) := ea_ci (fX11_in x1 (0 : Int32) (7 : Int32) M) (fun r2 M3 => if r2 = 0 then (ea_ci (fX11_in x1 (10 : Int32) (12 : Int32) M3) (fun r6 M7 => if r6 = 0 then (ea_ci (fX11_in x1 (20 : Int32) ((19 : Int32) + (M7.1 102 (7 : Int32).toNatClampNeg)) M7) (fun r10 M11 => if r10 = 0 then (ea_ci (fX11_isStory (x1 - (30 : Int32)) M11) (fun r14 M15 => if r14 = 0 then (ea_ci (fX11_isStory (x1 - (40 : Int32)) M15) (fun r18 M19 => if r18 = 0 then (some ((-1 : Int32), M19)) else (fX11_told_211 ea_N x1 (0 : Int32) (0 : Int32) M19))) else (ea_ck (ea_ix (x1 - (30 : Int32)) (ea_len 107)) (some (M15.1 107 (x1 - (30 : Int32)).toNatClampNeg, M15))))) else (ea_ck (ea_ix (((11 : Int32) + x1) - (20 : Int32)) (ea_len 102)) (some (M11.1 102 (((11 : Int32) + x1) - (20 : Int32)).toNatClampNeg, M11))))) else (ea_ck (ea_ix (((8 : Int32) + x1) - (10 : Int32)) (ea_len 102)) (some (M7.1 102 (((8 : Int32) + x1) - (10 : Int32)).toNatClampNeg, M7))))) else (if x1 = 0 then (some (M3.1 102 (0 : Int32).toNatClampNeg, M3)) else (if x1 = (1 : Int32) then (some (M3.1 102 (1 : Int32).toNatClampNeg, M3)) else (if x1 = (2 : Int32) then (some (M3.1 102 (2 : Int32).toNatClampNeg, M3)) else (if x1 = (3 : Int32) then (some (M3.1 102 (3 : Int32).toNatClampNeg, M3)) else (if x1 = (4 : Int32) then (some (M3.1 102 (4 : Int32).toNatClampNeg, M3)) else (if x1 = (5 : Int32) then (some (M3.1 102 (5 : Int32).toNatClampNeg, M3)) else (if x1 = (6 : Int32) then (some (M3.1 102 (6 : Int32).toNatClampNeg, M3)) else (some (M3.1 102 (7 : Int32).toNatClampNeg, M3))))))))))
def fX11_told (x1 : Int32) (M : eM) : Option (Int32 × eM) := fX11_told_0 x1 M
section SX11_told
variable {p : Program} {l : Launch} {e : Env} {s : State} {m : MethodId} {args : Array Value} {below : List Frame} {meth : Method} {cd : Code} {E : eE} {ids : List Nat} {res : Int32 × eM}
set_option maxHeartbeats 4000000 in
set_option maxRecDepth 20000 in
theorem wX11_told_211 (C : ea_C p s m args meth cd cX11_told 4 (some .int) RX11) (hY : ea_Y ids) : ∀ (n : Nat) (x1 : Int32) (x2 : Int32) (x3 : Int32) (M : eM) (H : Heap) (locs : List Loc) (ls : Array Slot), fX11_told_211 n x1 x2 x3 M = some res → ea_w E ids M s H locs → lv_has ls 4 [(0, .ref (E.1 100)), (1, .int x1), (2, .int x2), (3, .int x3)] → W p l e (ea_rm 2 43) s m args below meth cd H locs 0 0 (MQ below (ea_Qi E ids res) args s 0 0 (ea_Ad E ids)) (F0 m 211 ls []) := by
  intro n
  induction n with
  | zero => intro x1 x2 x3 M H locs ls hf; cases hf
  | succ n ih =>
    intro x1 x2 x3 M H locs ls hf  hw hl
    replace hf := (fX11_told_211.eq_2 ..).symm.trans hf
    refine lv_iload_n C.1 C.2.1 dX11_told_211 rfl (lv_at hl 3 rfl) ?_
    refine lv_aload_n C.1 C.2.1 dX11_told_212 rfl (lv_at hl 0 rfl) ?_
    refine gf_X11_34 C hw (hY 100 11 rfl) dX11_told_213 ?_
    refine W.eq (g2 := F0 m 216 ls [.ref (E.1 107), .int x3]) rfl ?_
    refine lv_iload_n C.1 C.2.1 dX11_told_216 rfl (lv_at hl 1 rfl) ?_
    refine lv_bipush (v := 40) C.1 C.2.1 dX11_told_217 (by decide) ?_
    refine lv_isub C.1 C.2.1 dX11_told_219 ?_
    obtain ⟨hc1, hf⟩ := ea_ck_s hf
    refine ea_iald C hw (show ea_ok ids 107 20 from ok_11_17 (hY 100 11 rfl)) hc1 dX11_told_220 ?_
    refine lv_icmp_ge (tgt := 249) C.1 C.2.1 dX11_told_221 (by decide) (fun hc2 => ?_) (fun hc2 => ?_)
    · replace hf := ea_if_t hc2 hf
      refine lv_iload_n C.1 C.2.1 dX11_told_249 rfl (lv_at hl 2 rfl) ?_
      exact ea_iret C hw hf dX11_told_250
    · replace hf := ea_if_f hc2 hf
      refine lv_iload_n C.1 C.2.1 dX11_told_224 rfl (lv_at hl 2 rfl) ?_
      refine lv_aload_n C.1 C.2.1 dX11_told_225 rfl (lv_at hl 0 rfl) ?_
      refine gf_X11_37 C hw (hY 100 11 rfl) dX11_told_226 ?_
      refine W.eq (g2 := F0 m 229 ls [.ref (E.1 108), .int x2]) rfl ?_
      refine lv_iconst (v := 4) C.1 C.2.1 dX11_told_229 (by decide) ?_
      refine lv_bipush (v := 6) C.1 C.2.1 dX11_told_230 (by decide) ?_
      refine lv_iload_n C.1 C.2.1 dX11_told_232 rfl (lv_at hl 1 rfl) ?_
      refine lv_bipush (v := 40) C.1 C.2.1 dX11_told_233 (by decide) ?_
      refine lv_isub C.1 C.2.1 dX11_told_235 ?_
      refine lv_imul C.1 C.2.1 dX11_told_236 ?_
      refine lv_iload_n C.1 C.2.1 dX11_told_237 rfl (lv_at hl 3 rfl) ?_
      refine lv_iadd C.1 C.2.1 dX11_told_238 ?_
      refine lv_imul C.1 C.2.1 dX11_told_239 ?_
      obtain ⟨hc3, hf⟩ := ea_ck_s hf
      refine ea_iald C hw (show ea_ok ids 108 20 from ok_11_18 (hY 100 11 rfl)) hc3 dX11_told_240 ?_
      refine lv_iadd C.1 C.2.1 dX11_told_241 ?_
      obtain ⟨y4, ey5, hf⟩ := ea_lt_s hf
      refine ea_topi ey5 ?_
      refine lv_istore_n (lv' := [(2, .int y4), (0, .ref (E.1 100)), (1, .int x1), (3, .int x3)]) C.1 C.2.1 dX11_told_242 rfl hl (by decide) rfl (fun ls hl => ?_)
      refine lv_iinc (v := x3 + (1 : Int32)) (lv' := [(3, .int (x3 + (1 : Int32))), (2, .int y4), (0, .ref (E.1 100)), (1, .int x1)]) C.1 C.2.1 dX11_told_243 hl (k := 3) rfl rfl (by decide) rfl (fun ls hl => ?_)
      refine lv_goto (tgt := 211) C.1 C.2.1 dX11_told_246 (by decide) ?_
      exact ih _ _ _ _ _ _ _ hf hw (lv_sub hl [2, 3, 1, 0] rfl)
set_option maxHeartbeats 4000000 in
set_option maxRecDepth 20000 in
theorem wX11_told_0 (C : ea_C p s m args meth cd cX11_told 4 (some .int) RX11) (hY : ea_Y ids) : ∀ (x1 : Int32) (M : eM) (H : Heap) (locs : List Loc) (ls : Array Slot), fX11_told_0 x1 M = some res → ea_w E ids M s H locs → lv_has ls 4 [(0, .ref (E.1 100)), (1, .int x1)] → W p l e (ea_rm 2 43) s m args below meth cd H locs 0 0 (MQ below (ea_Qi E ids res) args s 0 0 (ea_Ad E ids)) (F0 m 0 ls []) := by
  intro x1 M H locs ls hf  hw hl
  replace hf := (fX11_told_0.eq_1 ..).symm.trans hf
  refine lv_iload_n C.1 C.2.1 dX11_told_0 rfl (lv_at hl 1 rfl) ?_
  refine lv_iconst (v := 0) C.1 C.2.1 dX11_told_1 (by decide) ?_
  refine lv_bipush (v := 7) C.1 C.2.1 dX11_told_2 (by decide) ?_
  obtain ⟨r2, M3, he1, hf⟩ := ea_ci_s hf
  refine ea_runi2 hw (cl_X11_172 C hw (As := [.int x1, .int (0 : Int32), .int (7 : Int32)]) (rest := []) (mX11_in (l := l) (E := E) (ids := ids) hY he1) (by decide) rfl hl.1 rfl (Nat.le_of_ble_eq_true rfl) dX11_told_4 ⟨Nat.le_refl _, Nat.le_refl _⟩) (fun H locs hw => ?_)
  refine lv_if_eq (tgt := 117) C.1 C.2.1 dX11_told_7 (by decide) (fun hc4 => ?_) (fun hc4 => ?_)
  · replace hf := ea_if_t hc4 hf
    refine lv_iload_n C.1 C.2.1 dX11_told_117 rfl (lv_at hl 1 rfl) ?_
    refine lv_bipush (v := 10) C.1 C.2.1 dX11_told_118 (by decide) ?_
    refine lv_bipush (v := 12) C.1 C.2.1 dX11_told_120 (by decide) ?_
    obtain ⟨r6, M7, he5, hf⟩ := ea_ci_s hf
    refine ea_runi2 hw (cl_X11_172 C hw (As := [.int x1, .int (10 : Int32), .int (12 : Int32)]) (rest := []) (mX11_in (l := l) (E := E) (ids := ids) hY he5) (by decide) rfl hl.1 rfl (Nat.le_of_ble_eq_true rfl) dX11_told_122 ⟨Nat.le_refl _, Nat.le_refl _⟩) (fun H locs hw => ?_)
    refine lv_if_eq (tgt := 141) C.1 C.2.1 dX11_told_125 (by decide) (fun hc8 => ?_) (fun hc8 => ?_)
    · replace hf := ea_if_t hc8 hf
      refine lv_iload_n C.1 C.2.1 dX11_told_141 rfl (lv_at hl 1 rfl) ?_
      refine lv_bipush (v := 20) C.1 C.2.1 dX11_told_142 (by decide) ?_
      refine lv_bipush (v := 19) C.1 C.2.1 dX11_told_144 (by decide) ?_
      refine lv_aload_n C.1 C.2.1 dX11_told_146 rfl (lv_at hl 0 rfl) ?_
      refine gf_X11_17 C hw (hY 100 11 rfl) dX11_told_147 ?_
      refine W.eq (g2 := F0 m 150 ls [.ref (E.1 102), .int (19 : Int32), .int (20 : Int32), .int x1]) rfl ?_
      refine lv_bipush (v := 7) C.1 C.2.1 dX11_told_150 (by decide) ?_
      refine ea_iald C hw (show ea_ok ids 102 20 from ok_11_12 (hY 100 11 rfl)) (by decide) dX11_told_152 ?_
      refine lv_iadd C.1 C.2.1 dX11_told_153 ?_
      obtain ⟨r10, M11, he9, hf⟩ := ea_ci_s hf
      refine ea_runi2 hw (cl_X11_172 C hw (As := [.int x1, .int (20 : Int32), .int ((19 : Int32) + (M7.1 102 (7 : Int32).toNatClampNeg))]) (rest := []) (mX11_in (l := l) (E := E) (ids := ids) hY he9) (by decide) rfl hl.1 rfl (Nat.le_of_ble_eq_true rfl) dX11_told_154 ⟨Nat.le_refl _, Nat.le_refl _⟩) (fun H locs hw => ?_)
      refine lv_if_eq (tgt := 173) C.1 C.2.1 dX11_told_157 (by decide) (fun hc12 => ?_) (fun hc12 => ?_)
      · replace hf := ea_if_t hc12 hf
        refine lv_aload_n C.1 C.2.1 dX11_told_173 rfl (lv_at hl 0 rfl) ?_
        refine lv_iload_n C.1 C.2.1 dX11_told_174 rfl (lv_at hl 1 rfl) ?_
        refine lv_bipush (v := 30) C.1 C.2.1 dX11_told_175 (by decide) ?_
        refine lv_isub C.1 C.2.1 dX11_told_177 ?_
        obtain ⟨r14, M15, he13, hf⟩ := ea_ci_s hf
        refine ea_runi2 hw (cl_X11_225 C hw (hY 100 11 rfl) (As := [.int (x1 - (30 : Int32))]) (rest := []) (mX11_isStory (l := l) (E := E) (ids := ids) hY he13) (by decide) rfl hl.1 rfl (Nat.le_of_ble_eq_true rfl) dX11_told_178 ⟨Nat.le_refl _, Nat.le_refl _⟩) (fun H locs hw => ?_)
        refine lv_if_eq (tgt := 194) C.1 C.2.1 dX11_told_181 (by decide) (fun hc16 => ?_) (fun hc16 => ?_)
        · replace hf := ea_if_t hc16 hf
          refine lv_aload_n C.1 C.2.1 dX11_told_194 rfl (lv_at hl 0 rfl) ?_
          refine lv_iload_n C.1 C.2.1 dX11_told_195 rfl (lv_at hl 1 rfl) ?_
          refine lv_bipush (v := 40) C.1 C.2.1 dX11_told_196 (by decide) ?_
          refine lv_isub C.1 C.2.1 dX11_told_198 ?_
          obtain ⟨r18, M19, he17, hf⟩ := ea_ci_s hf
          refine ea_runi2 hw (cl_X11_225 C hw (hY 100 11 rfl) (As := [.int (x1 - (40 : Int32))]) (rest := []) (mX11_isStory (l := l) (E := E) (ids := ids) hY he17) (by decide) rfl hl.1 rfl (Nat.le_of_ble_eq_true rfl) dX11_told_199 ⟨Nat.le_refl _, Nat.le_refl _⟩) (fun H locs hw => ?_)
          refine lv_if_ne (tgt := 207) C.1 C.2.1 dX11_told_202 (by decide) (fun hc20 => ?_) (fun hc20 => ?_)
          · replace hf := ea_if_f hc20 hf
            refine lv_iconst (v := 0) C.1 C.2.1 dX11_told_207 (by decide) ?_
            refine lv_istore_n (lv' := [(2, .int (0 : Int32)), (0, .ref (E.1 100)), (1, .int x1)]) C.1 C.2.1 dX11_told_208 rfl hl (by decide) rfl (fun ls hl => ?_)
            refine lv_iconst (v := 0) C.1 C.2.1 dX11_told_209 (by decide) ?_
            refine lv_istore_n (lv' := [(3, .int (0 : Int32)), (2, .int (0 : Int32)), (0, .ref (E.1 100)), (1, .int x1)]) C.1 C.2.1 dX11_told_210 rfl hl (by decide) rfl (fun ls hl => ?_)
            exact wX11_told_211 C hY ea_N _ _ _ _ _ _ _ hf hw (lv_sub hl [2, 3, 1, 0] rfl)
          · replace hf := ea_if_t hc20 hf
            refine lv_iconst (v := (-1 : Int32)) C.1 C.2.1 dX11_told_205 (by decide) ?_
            exact ea_iret C hw hf dX11_told_206
        · replace hf := ea_if_f hc16 hf
          refine lv_aload_n C.1 C.2.1 dX11_told_184 rfl (lv_at hl 0 rfl) ?_
          refine gf_X11_34 C hw (hY 100 11 rfl) dX11_told_185 ?_
          refine W.eq (g2 := F0 m 188 ls [.ref (E.1 107)]) rfl ?_
          refine lv_iload_n C.1 C.2.1 dX11_told_188 rfl (lv_at hl 1 rfl) ?_
          refine lv_bipush (v := 30) C.1 C.2.1 dX11_told_189 (by decide) ?_
          refine lv_isub C.1 C.2.1 dX11_told_191 ?_
          obtain ⟨hc21, hf⟩ := ea_ck_s hf
          refine ea_iald C hw (show ea_ok ids 107 20 from ok_11_17 (hY 100 11 rfl)) hc21 dX11_told_192 ?_
          exact ea_iret C hw hf dX11_told_193
      · replace hf := ea_if_f hc12 hf
        refine lv_aload_n C.1 C.2.1 dX11_told_160 rfl (lv_at hl 0 rfl) ?_
        refine gf_X11_17 C hw (hY 100 11 rfl) dX11_told_161 ?_
        refine W.eq (g2 := F0 m 164 ls [.ref (E.1 102)]) rfl ?_
        refine lv_bipush (v := 11) C.1 C.2.1 dX11_told_164 (by decide) ?_
        refine lv_iload_n C.1 C.2.1 dX11_told_166 rfl (lv_at hl 1 rfl) ?_
        refine lv_iadd C.1 C.2.1 dX11_told_167 ?_
        refine lv_bipush (v := 20) C.1 C.2.1 dX11_told_168 (by decide) ?_
        refine lv_isub C.1 C.2.1 dX11_told_170 ?_
        obtain ⟨hc22, hf⟩ := ea_ck_s hf
        refine ea_iald C hw (show ea_ok ids 102 20 from ok_11_12 (hY 100 11 rfl)) hc22 dX11_told_171 ?_
        exact ea_iret C hw hf dX11_told_172
    · replace hf := ea_if_f hc8 hf
      refine lv_aload_n C.1 C.2.1 dX11_told_128 rfl (lv_at hl 0 rfl) ?_
      refine gf_X11_17 C hw (hY 100 11 rfl) dX11_told_129 ?_
      refine W.eq (g2 := F0 m 132 ls [.ref (E.1 102)]) rfl ?_
      refine lv_bipush (v := 8) C.1 C.2.1 dX11_told_132 (by decide) ?_
      refine lv_iload_n C.1 C.2.1 dX11_told_134 rfl (lv_at hl 1 rfl) ?_
      refine lv_iadd C.1 C.2.1 dX11_told_135 ?_
      refine lv_bipush (v := 10) C.1 C.2.1 dX11_told_136 (by decide) ?_
      refine lv_isub C.1 C.2.1 dX11_told_138 ?_
      obtain ⟨hc23, hf⟩ := ea_ck_s hf
      refine ea_iald C hw (show ea_ok ids 102 20 from ok_11_12 (hY 100 11 rfl)) hc23 dX11_told_139 ?_
      exact ea_iret C hw hf dX11_told_140
  · replace hf := ea_if_f hc4 hf
    refine lv_iload_n C.1 C.2.1 dX11_told_10 rfl (lv_at hl 1 rfl) ?_
    refine lv_if_ne (tgt := 23) C.1 C.2.1 dX11_told_11 (by decide) (fun hc24 => ?_) (fun hc24 => ?_)
    · replace hf := ea_if_f hc24 hf
      refine lv_iload_n C.1 C.2.1 dX11_told_23 rfl (lv_at hl 1 rfl) ?_
      refine lv_iconst (v := 1) C.1 C.2.1 dX11_told_24 (by decide) ?_
      refine lv_icmp_ne (tgt := 37) C.1 C.2.1 dX11_told_25 (by decide) (fun hc25 => ?_) (fun hc25 => ?_)
      · replace hf := ea_if_f hc25 hf
        refine lv_iload_n C.1 C.2.1 dX11_told_37 rfl (lv_at hl 1 rfl) ?_
        refine lv_iconst (v := 2) C.1 C.2.1 dX11_told_38 (by decide) ?_
        refine lv_icmp_ne (tgt := 51) C.1 C.2.1 dX11_told_39 (by decide) (fun hc26 => ?_) (fun hc26 => ?_)
        · replace hf := ea_if_f hc26 hf
          refine lv_iload_n C.1 C.2.1 dX11_told_51 rfl (lv_at hl 1 rfl) ?_
          refine lv_iconst (v := 3) C.1 C.2.1 dX11_told_52 (by decide) ?_
          refine lv_icmp_ne (tgt := 65) C.1 C.2.1 dX11_told_53 (by decide) (fun hc27 => ?_) (fun hc27 => ?_)
          · replace hf := ea_if_f hc27 hf
            refine lv_iload_n C.1 C.2.1 dX11_told_65 rfl (lv_at hl 1 rfl) ?_
            refine lv_iconst (v := 4) C.1 C.2.1 dX11_told_66 (by decide) ?_
            refine lv_icmp_ne (tgt := 79) C.1 C.2.1 dX11_told_67 (by decide) (fun hc28 => ?_) (fun hc28 => ?_)
            · replace hf := ea_if_f hc28 hf
              refine lv_iload_n C.1 C.2.1 dX11_told_79 rfl (lv_at hl 1 rfl) ?_
              refine lv_iconst (v := 5) C.1 C.2.1 dX11_told_80 (by decide) ?_
              refine lv_icmp_ne (tgt := 93) C.1 C.2.1 dX11_told_81 (by decide) (fun hc29 => ?_) (fun hc29 => ?_)
              · replace hf := ea_if_f hc29 hf
                refine lv_iload_n C.1 C.2.1 dX11_told_93 rfl (lv_at hl 1 rfl) ?_
                refine lv_bipush (v := 6) C.1 C.2.1 dX11_told_94 (by decide) ?_
                refine lv_icmp_ne (tgt := 109) C.1 C.2.1 dX11_told_96 (by decide) (fun hc30 => ?_) (fun hc30 => ?_)
                · replace hf := ea_if_f hc30 hf
                  refine lv_aload_n C.1 C.2.1 dX11_told_109 rfl (lv_at hl 0 rfl) ?_
                  refine gf_X11_17 C hw (hY 100 11 rfl) dX11_told_110 ?_
                  refine W.eq (g2 := F0 m 113 ls [.ref (E.1 102)]) rfl ?_
                  refine lv_bipush (v := 7) C.1 C.2.1 dX11_told_113 (by decide) ?_
                  refine ea_iald C hw (show ea_ok ids 102 20 from ok_11_12 (hY 100 11 rfl)) (by decide) dX11_told_115 ?_
                  exact ea_iret C hw hf dX11_told_116
                · replace hf := ea_if_t hc30 hf
                  refine lv_aload_n C.1 C.2.1 dX11_told_99 rfl (lv_at hl 0 rfl) ?_
                  refine gf_X11_17 C hw (hY 100 11 rfl) dX11_told_100 ?_
                  refine W.eq (g2 := F0 m 103 ls [.ref (E.1 102)]) rfl ?_
                  refine lv_bipush (v := 6) C.1 C.2.1 dX11_told_103 (by decide) ?_
                  refine ea_iald C hw (show ea_ok ids 102 20 from ok_11_12 (hY 100 11 rfl)) (by decide) dX11_told_105 ?_
                  refine lv_goto (tgt := 116) C.1 C.2.1 dX11_told_106 (by decide) ?_
                  exact ea_iret C hw hf dX11_told_116
              · replace hf := ea_if_t hc29 hf
                refine lv_aload_n C.1 C.2.1 dX11_told_84 rfl (lv_at hl 0 rfl) ?_
                refine gf_X11_17 C hw (hY 100 11 rfl) dX11_told_85 ?_
                refine W.eq (g2 := F0 m 88 ls [.ref (E.1 102)]) rfl ?_
                refine lv_iconst (v := 5) C.1 C.2.1 dX11_told_88 (by decide) ?_
                refine ea_iald C hw (show ea_ok ids 102 20 from ok_11_12 (hY 100 11 rfl)) (by decide) dX11_told_89 ?_
                refine lv_goto (tgt := 116) C.1 C.2.1 dX11_told_90 (by decide) ?_
                exact ea_iret C hw hf dX11_told_116
            · replace hf := ea_if_t hc28 hf
              refine lv_aload_n C.1 C.2.1 dX11_told_70 rfl (lv_at hl 0 rfl) ?_
              refine gf_X11_17 C hw (hY 100 11 rfl) dX11_told_71 ?_
              refine W.eq (g2 := F0 m 74 ls [.ref (E.1 102)]) rfl ?_
              refine lv_iconst (v := 4) C.1 C.2.1 dX11_told_74 (by decide) ?_
              refine ea_iald C hw (show ea_ok ids 102 20 from ok_11_12 (hY 100 11 rfl)) (by decide) dX11_told_75 ?_
              refine lv_goto (tgt := 116) C.1 C.2.1 dX11_told_76 (by decide) ?_
              exact ea_iret C hw hf dX11_told_116
          · replace hf := ea_if_t hc27 hf
            refine lv_aload_n C.1 C.2.1 dX11_told_56 rfl (lv_at hl 0 rfl) ?_
            refine gf_X11_17 C hw (hY 100 11 rfl) dX11_told_57 ?_
            refine W.eq (g2 := F0 m 60 ls [.ref (E.1 102)]) rfl ?_
            refine lv_iconst (v := 3) C.1 C.2.1 dX11_told_60 (by decide) ?_
            refine ea_iald C hw (show ea_ok ids 102 20 from ok_11_12 (hY 100 11 rfl)) (by decide) dX11_told_61 ?_
            refine lv_goto (tgt := 116) C.1 C.2.1 dX11_told_62 (by decide) ?_
            exact ea_iret C hw hf dX11_told_116
        · replace hf := ea_if_t hc26 hf
          refine lv_aload_n C.1 C.2.1 dX11_told_42 rfl (lv_at hl 0 rfl) ?_
          refine gf_X11_17 C hw (hY 100 11 rfl) dX11_told_43 ?_
          refine W.eq (g2 := F0 m 46 ls [.ref (E.1 102)]) rfl ?_
          refine lv_iconst (v := 2) C.1 C.2.1 dX11_told_46 (by decide) ?_
          refine ea_iald C hw (show ea_ok ids 102 20 from ok_11_12 (hY 100 11 rfl)) (by decide) dX11_told_47 ?_
          refine lv_goto (tgt := 116) C.1 C.2.1 dX11_told_48 (by decide) ?_
          exact ea_iret C hw hf dX11_told_116
      · replace hf := ea_if_t hc25 hf
        refine lv_aload_n C.1 C.2.1 dX11_told_28 rfl (lv_at hl 0 rfl) ?_
        refine gf_X11_17 C hw (hY 100 11 rfl) dX11_told_29 ?_
        refine W.eq (g2 := F0 m 32 ls [.ref (E.1 102)]) rfl ?_
        refine lv_iconst (v := 1) C.1 C.2.1 dX11_told_32 (by decide) ?_
        refine ea_iald C hw (show ea_ok ids 102 20 from ok_11_12 (hY 100 11 rfl)) (by decide) dX11_told_33 ?_
        refine lv_goto (tgt := 116) C.1 C.2.1 dX11_told_34 (by decide) ?_
        exact ea_iret C hw hf dX11_told_116
    · replace hf := ea_if_t hc24 hf
      refine lv_aload_n C.1 C.2.1 dX11_told_14 rfl (lv_at hl 0 rfl) ?_
      refine gf_X11_17 C hw (hY 100 11 rfl) dX11_told_15 ?_
      refine W.eq (g2 := F0 m 18 ls [.ref (E.1 102)]) rfl ?_
      refine lv_iconst (v := 0) C.1 C.2.1 dX11_told_18 (by decide) ?_
      refine ea_iald C hw (show ea_ok ids 102 20 from ok_11_12 (hY 100 11 rfl)) (by decide) dX11_told_19 ?_
      refine lv_goto (tgt := 116) C.1 C.2.1 dX11_told_20 (by decide) ?_
      exact ea_iret C hw hf dX11_told_116
set_option maxHeartbeats 4000000 in
set_option maxRecDepth 20000 in
theorem mX11_told {l : Launch} {E : eE} {ids : List Nat} (hY : ea_Y ids) {x1 : Int32} {M : eM} {res : Int32 × eM} (hf : fX11_told x1 M = some res) : ea_Mi l yX11_told cX11_told 4 (some .int) 2 43 E ids [.ref (E.1 100), .int x1] M res := by
  refine ea_goi (by decide) (Nat.le_of_ble_eq_true rfl) wc_X11_told ?_
  intro p e s m below meth cd ls C hw hl
  exact wX11_told_0 C hY _ _ _ _ _ hf hw hl
end SX11_told

def fX11_vat_134 (k68 : Int32 → Int32 → Int32 → Int32 → eM → Option (Int32 × eM)) (x5 : Int32) (x6 : Int32) (x8 : Int32) (t0 : Int32) (t1 : Int32) (M : eM) : Option (Int32 × eM) := k68 x5 x6 (t1 + t0) (x8 + (1 : Int32)) M
def fX11_vat_129 (k68 : Int32 → Int32 → Int32 → Int32 → eM → Option (Int32 × eM)) (x5 : Int32) (x6 : Int32) (x8 : Int32) (t0 : Int32) (M : eM) : Option (Int32 × eM) := fX11_vat_134 k68 x5 x6 x8 (1 : Int32) t0 M
def fX11_vat_104 (k68 : Int32 → Int32 → Int32 → Int32 → eM → Option (Int32 × eM)) (x5 : Int32) (x7 : Int32) (x8 : Int32) (t0 : Int32) (t1 : Int32) (M : eM) : Option (Int32 × eM) := ea_ck (ea_ix x8 (ea_len 122)) (if (M.1 122 x8.toNatClampNeg) = 0 then (ea_ck (ea_ix x8 (ea_len 123)) (if (M.1 123 x8.toNatClampNeg) = 0 then (fX11_vat_134 k68 x5 (t1 + t0) x8 (0 : Int32) x7 M) else (fX11_vat_129 k68 x5 (t1 + t0) x8 x7 M))) else (fX11_vat_129 k68 x5 (t1 + t0) x8 x7 M))
def fX11_vat_103 (k68 : Int32 → Int32 → Int32 → Int32 → eM → Option (Int32 × eM)) (x5 : Int32) (x7 : Int32) (x8 : Int32) (t0 : Int32) (M : eM) : Option (Int32 × eM) := fX11_vat_104 k68 x5 x7 x8 (0 : Int32) t0 M
def fX11_vat_68 (k143 : Int32 → Int32 → Int32 → eM → Option (Int32 × eM)) : Nat → Int32 → Int32 → Int32 → Int32 → eM → Option (Int32 × eM)
  | 0, _, _, _, _, _ => none
  | n + 1, x5, x6, x7, x8, M => if (M.1 100 22) ≤ x8 then (k143 x5 x6 x7 M) else (ea_ck (ea_ix x8 (ea_len 122)) (if (M.1 122 x8.toNatClampNeg) = 0 then (fX11_vat_103 (fX11_vat_68 k143 n) x5 x7 x8 x6 M) else (ea_ck (ea_ix x8 (ea_len 123)) (if (M.1 123 x8.toNatClampNeg) = 0 then (fX11_vat_103 (fX11_vat_68 k143 n) x5 x7 x8 x6 M) else (fX11_vat_104 (fX11_vat_68 k143 n) x5 x7 x8 (1 : Int32) x6 M)))))
def fX11_vat_171 (x6 : Int32) (x7 : Int32) (t0 : Int32) (M : eM) : Option (Int32 × eM) := ea_ci (fX11_common x6 x7 M) (fun r2 M3 => ea_ck (ea_nz r2) (some (t0 / r2, M3)))
def fX11_vat_143 (x5 : Int32) (x6 : Int32) (x7 : Int32) (M : eM) : Option (Int32 × eM) := if x7 = 0 then (if x5 = 0 then (some ((0 : Int32), M)) else (some ((1 : Int32), M))) else (if x5 = 0 then (fX11_vat_171 x6 x7 x6 M) else (fX11_vat_171 x6 x7 x7 M))
def fX11_vat_0 (x1 : Int32) (x2 : Int32) (x3 : Int32) (x4 : Int32) (x5 : Int32) (M : eM) : Option (Int32 × eM) := ea_ci (fX11_isAsked x1 x3 x4 M) (fun r2 M3 => if r2 = 0 then (some ((-2 : Int32), M3)) else (ea_ci (fX11_isCell x2 M3) (fun r6 M7 => if r6 = 0 then (some ((-2 : Int32), M7)) else (if x1 = x2 then (some ((-2 : Int32), M7)) else (ea_cv (fX11_findFits x1 x3 x4 M7) (fun M11 => ea_cv (fX11_mark 122 M11) (fun M13 => ea_cv (fX11_findFits x2 x3 x4 M13) (fun M15 => ea_cv (fX11_mark 123 M15) (fun M17 => fX11_vat_68 (fX11_vat_143) ea_N x5 (0 : Int32) (0 : Int32) (0 : Int32) M17)))))))))
def fX11_vat (x1 : Int32) (x2 : Int32) (x3 : Int32) (x4 : Int32) (x5 : Int32) (M : eM) : Option (Int32 × eM) := fX11_vat_0 x1 x2 x3 x4 x5 M
section SX11_vat
variable {p : Program} {l : Launch} {e : Env} {s : State} {m : MethodId} {args : Array Value} {below : List Frame} {meth : Method} {cd : Code} {E : eE} {ids : List Nat} {res : Int32 × eM}
set_option maxHeartbeats 4000000 in
set_option maxRecDepth 20000 in
theorem wX11_vat_134 (C : ea_C p s m args meth cd cX11_vat 9 (some .int) RX11) (hY : ea_Y ids) {k68 : Int32 → Int32 → Int32 → Int32 → eM → Option (Int32 × eM)} (hk68 : ∀ (x5 : Int32) (x6 : Int32) (x7 : Int32) (x8 : Int32) (M : eM) (H : Heap) (locs : List Loc) (ls : Array Slot), k68 x5 x6 x7 x8 M = some res → ea_w E ids M s H locs → lv_has ls 9 [(0, .ref (E.1 100)), (5, .int x5), (6, .int x6), (7, .int x7), (8, .int x8)] → W p l e (ea_rm 6 143) s m args below meth cd H locs 0 0 (MQ below (ea_Qi E ids res) args s 0 0 (ea_Ad E ids)) (F0 m 68 ls [])) : ∀ (x5 : Int32) (x6 : Int32) (x8 : Int32) (t0 : Int32) (t1 : Int32) (M : eM) (H : Heap) (locs : List Loc) (ls : Array Slot), fX11_vat_134 k68 x5 x6 x8 t0 t1 M = some res → ea_w E ids M s H locs → lv_has ls 9 [(0, .ref (E.1 100)), (5, .int x5), (6, .int x6), (8, .int x8)] → W p l e (ea_rm 6 143) s m args below meth cd H locs 0 0 (MQ below (ea_Qi E ids res) args s 0 0 (ea_Ad E ids)) (F0 m 134 ls [.int t0, .int t1]) := by
  intro x5 x6 x8 t0 t1 M H locs ls hf  hw hl
  replace hf := (fX11_vat_134.eq_1 ..).symm.trans hf
  refine lv_iadd C.1 C.2.1 dX11_vat_134 ?_
  refine lv_istore (lv' := [(7, .int (t1 + t0)), (0, .ref (E.1 100)), (5, .int x5), (6, .int x6), (8, .int x8)]) C.1 C.2.1 dX11_vat_135 hl (by decide) rfl (fun ls hl => ?_)
  refine lv_iinc (v := x8 + (1 : Int32)) (lv' := [(8, .int (x8 + (1 : Int32))), (7, .int (t1 + t0)), (0, .ref (E.1 100)), (5, .int x5), (6, .int x6)]) C.1 C.2.1 dX11_vat_137 hl (k := 4) rfl rfl (by decide) rfl (fun ls hl => ?_)
  refine lv_goto (tgt := 68) C.1 C.2.1 dX11_vat_140 (by decide) ?_
  exact hk68 _ _ _ _ _ _ _ _ hf hw (lv_sub hl [2, 3, 4, 1, 0] rfl)
set_option maxHeartbeats 4000000 in
set_option maxRecDepth 20000 in
theorem wX11_vat_129 (C : ea_C p s m args meth cd cX11_vat 9 (some .int) RX11) (hY : ea_Y ids) {k68 : Int32 → Int32 → Int32 → Int32 → eM → Option (Int32 × eM)} (hk68 : ∀ (x5 : Int32) (x6 : Int32) (x7 : Int32) (x8 : Int32) (M : eM) (H : Heap) (locs : List Loc) (ls : Array Slot), k68 x5 x6 x7 x8 M = some res → ea_w E ids M s H locs → lv_has ls 9 [(0, .ref (E.1 100)), (5, .int x5), (6, .int x6), (7, .int x7), (8, .int x8)] → W p l e (ea_rm 6 143) s m args below meth cd H locs 0 0 (MQ below (ea_Qi E ids res) args s 0 0 (ea_Ad E ids)) (F0 m 68 ls [])) : ∀ (x5 : Int32) (x6 : Int32) (x8 : Int32) (t0 : Int32) (M : eM) (H : Heap) (locs : List Loc) (ls : Array Slot), fX11_vat_129 k68 x5 x6 x8 t0 M = some res → ea_w E ids M s H locs → lv_has ls 9 [(0, .ref (E.1 100)), (5, .int x5), (6, .int x6), (8, .int x8)] → W p l e (ea_rm 6 143) s m args below meth cd H locs 0 0 (MQ below (ea_Qi E ids res) args s 0 0 (ea_Ad E ids)) (F0 m 129 ls [.int t0]) := by
  intro x5 x6 x8 t0 M H locs ls hf  hw hl
  replace hf := (fX11_vat_129.eq_1 ..).symm.trans hf
  refine lv_iconst (v := 1) C.1 C.2.1 dX11_vat_129 (by decide) ?_
  refine lv_goto (tgt := 134) C.1 C.2.1 dX11_vat_130 (by decide) ?_
  exact wX11_vat_134 C hY hk68 _ _ _ _ _ _ _ _ _ hf hw (lv_sub hl [0, 1, 2, 3] rfl)
set_option maxHeartbeats 4000000 in
set_option maxRecDepth 20000 in
theorem wX11_vat_104 (C : ea_C p s m args meth cd cX11_vat 9 (some .int) RX11) (hY : ea_Y ids) {k68 : Int32 → Int32 → Int32 → Int32 → eM → Option (Int32 × eM)} (hk68 : ∀ (x5 : Int32) (x6 : Int32) (x7 : Int32) (x8 : Int32) (M : eM) (H : Heap) (locs : List Loc) (ls : Array Slot), k68 x5 x6 x7 x8 M = some res → ea_w E ids M s H locs → lv_has ls 9 [(0, .ref (E.1 100)), (5, .int x5), (6, .int x6), (7, .int x7), (8, .int x8)] → W p l e (ea_rm 6 143) s m args below meth cd H locs 0 0 (MQ below (ea_Qi E ids res) args s 0 0 (ea_Ad E ids)) (F0 m 68 ls [])) : ∀ (x5 : Int32) (x7 : Int32) (x8 : Int32) (t0 : Int32) (t1 : Int32) (M : eM) (H : Heap) (locs : List Loc) (ls : Array Slot), fX11_vat_104 k68 x5 x7 x8 t0 t1 M = some res → ea_w E ids M s H locs → lv_has ls 9 [(0, .ref (E.1 100)), (5, .int x5), (7, .int x7), (8, .int x8)] → W p l e (ea_rm 6 143) s m args below meth cd H locs 0 0 (MQ below (ea_Qi E ids res) args s 0 0 (ea_Ad E ids)) (F0 m 104 ls [.int t0, .int t1]) := by
  intro x5 x7 x8 t0 t1 M H locs ls hf  hw hl
  replace hf := (fX11_vat_104.eq_1 ..).symm.trans hf
  refine lv_iadd C.1 C.2.1 dX11_vat_104 ?_
  refine lv_istore (lv' := [(6, .int (t1 + t0)), (0, .ref (E.1 100)), (5, .int x5), (7, .int x7), (8, .int x8)]) C.1 C.2.1 dX11_vat_105 hl (by decide) rfl (fun ls hl => ?_)
  refine lv_iload C.1 C.2.1 dX11_vat_107 (lv_at hl 3 rfl) ?_
  refine lv_aload_n C.1 C.2.1 dX11_vat_109 rfl (lv_at hl 1 rfl) ?_
  refine gf_X11_80 C hw (hY 100 11 rfl) dX11_vat_110 ?_
  refine W.eq (g2 := F0 m 113 ls [.ref (E.1 122), .int x7]) rfl ?_
  refine lv_iload C.1 C.2.1 dX11_vat_113 (lv_at hl 4 rfl) ?_
  obtain ⟨hc1, hf⟩ := ea_ck_s hf
  refine ea_zald C hw (show ea_ok ids 122 23 from ok_11_38 (hY 100 11 rfl)) hc1 dX11_vat_115 ?_
  refine lv_if_ne (tgt := 129) C.1 C.2.1 dX11_vat_116 (by decide) (fun hc2 => ?_) (fun hc2 => ?_)
  · replace hf := ea_if_f hc2 hf
    exact wX11_vat_129 C hY hk68 _ _ _ _ _ _ _ _ hf hw (lv_sub hl [1, 2, 0, 4] rfl)
  · replace hf := ea_if_t hc2 hf
    refine lv_aload_n C.1 C.2.1 dX11_vat_119 rfl (lv_at hl 1 rfl) ?_
    refine gf_X11_83 C hw (hY 100 11 rfl) dX11_vat_120 ?_
    refine W.eq (g2 := F0 m 123 ls [.ref (E.1 123), .int x7]) rfl ?_
    refine lv_iload C.1 C.2.1 dX11_vat_123 (lv_at hl 4 rfl) ?_
    obtain ⟨hc3, hf⟩ := ea_ck_s hf
    refine ea_zald C hw (show ea_ok ids 123 23 from ok_11_39 (hY 100 11 rfl)) hc3 dX11_vat_125 ?_
    refine lv_if_eq (tgt := 133) C.1 C.2.1 dX11_vat_126 (by decide) (fun hc4 => ?_) (fun hc4 => ?_)
    · replace hf := ea_if_t hc4 hf
      refine lv_iconst (v := 0) C.1 C.2.1 dX11_vat_133 (by decide) ?_
      exact wX11_vat_134 C hY hk68 _ _ _ _ _ _ _ _ _ hf hw (lv_sub hl [1, 2, 0, 4] rfl)
    · replace hf := ea_if_f hc4 hf
      exact wX11_vat_129 C hY hk68 _ _ _ _ _ _ _ _ hf hw (lv_sub hl [1, 2, 0, 4] rfl)
set_option maxHeartbeats 4000000 in
set_option maxRecDepth 20000 in
theorem wX11_vat_103 (C : ea_C p s m args meth cd cX11_vat 9 (some .int) RX11) (hY : ea_Y ids) {k68 : Int32 → Int32 → Int32 → Int32 → eM → Option (Int32 × eM)} (hk68 : ∀ (x5 : Int32) (x6 : Int32) (x7 : Int32) (x8 : Int32) (M : eM) (H : Heap) (locs : List Loc) (ls : Array Slot), k68 x5 x6 x7 x8 M = some res → ea_w E ids M s H locs → lv_has ls 9 [(0, .ref (E.1 100)), (5, .int x5), (6, .int x6), (7, .int x7), (8, .int x8)] → W p l e (ea_rm 6 143) s m args below meth cd H locs 0 0 (MQ below (ea_Qi E ids res) args s 0 0 (ea_Ad E ids)) (F0 m 68 ls [])) : ∀ (x5 : Int32) (x7 : Int32) (x8 : Int32) (t0 : Int32) (M : eM) (H : Heap) (locs : List Loc) (ls : Array Slot), fX11_vat_103 k68 x5 x7 x8 t0 M = some res → ea_w E ids M s H locs → lv_has ls 9 [(0, .ref (E.1 100)), (5, .int x5), (7, .int x7), (8, .int x8)] → W p l e (ea_rm 6 143) s m args below meth cd H locs 0 0 (MQ below (ea_Qi E ids res) args s 0 0 (ea_Ad E ids)) (F0 m 103 ls [.int t0]) := by
  intro x5 x7 x8 t0 M H locs ls hf  hw hl
  replace hf := (fX11_vat_103.eq_1 ..).symm.trans hf
  refine lv_iconst (v := 0) C.1 C.2.1 dX11_vat_103 (by decide) ?_
  exact wX11_vat_104 C hY hk68 _ _ _ _ _ _ _ _ _ hf hw (lv_sub hl [0, 1, 2, 3] rfl)
set_option maxHeartbeats 4000000 in
set_option maxRecDepth 20000 in
theorem wX11_vat_68 (C : ea_C p s m args meth cd cX11_vat 9 (some .int) RX11) (hY : ea_Y ids) {k143 : Int32 → Int32 → Int32 → eM → Option (Int32 × eM)} (hk143 : ∀ (x5 : Int32) (x6 : Int32) (x7 : Int32) (M : eM) (H : Heap) (locs : List Loc) (ls : Array Slot), k143 x5 x6 x7 M = some res → ea_w E ids M s H locs → lv_has ls 9 [(5, .int x5), (6, .int x6), (7, .int x7)] → W p l e (ea_rm 6 143) s m args below meth cd H locs 0 0 (MQ below (ea_Qi E ids res) args s 0 0 (ea_Ad E ids)) (F0 m 143 ls [])) : ∀ (n : Nat) (x5 : Int32) (x6 : Int32) (x7 : Int32) (x8 : Int32) (M : eM) (H : Heap) (locs : List Loc) (ls : Array Slot), fX11_vat_68 k143 n x5 x6 x7 x8 M = some res → ea_w E ids M s H locs → lv_has ls 9 [(0, .ref (E.1 100)), (5, .int x5), (6, .int x6), (7, .int x7), (8, .int x8)] → W p l e (ea_rm 6 143) s m args below meth cd H locs 0 0 (MQ below (ea_Qi E ids res) args s 0 0 (ea_Ad E ids)) (F0 m 68 ls []) := by
  intro n
  induction n with
  | zero => intro x5 x6 x7 x8 M H locs ls hf; cases hf
  | succ n ih =>
    intro x5 x6 x7 x8 M H locs ls hf  hw hl
    replace hf := (fX11_vat_68.eq_2 ..).symm.trans hf
    refine lv_iload C.1 C.2.1 dX11_vat_68 (lv_at hl 4 rfl) ?_
    refine lv_aload_n C.1 C.2.1 dX11_vat_70 rfl (lv_at hl 0 rfl) ?_
    refine gf_X11_189 C hw (hY 100 11 rfl) dX11_vat_71 ?_
    refine lv_icmp_ge (tgt := 143) C.1 C.2.1 dX11_vat_74 (by decide) (fun hc1 => ?_) (fun hc1 => ?_)
    · replace hf := ea_if_t hc1 hf
      exact hk143 _ _ _ _ _ _ _ hf hw (lv_sub hl [1, 2, 3] rfl)
    · replace hf := ea_if_f hc1 hf
      refine lv_iload C.1 C.2.1 dX11_vat_77 (lv_at hl 2 rfl) ?_
      refine lv_aload_n C.1 C.2.1 dX11_vat_79 rfl (lv_at hl 0 rfl) ?_
      refine gf_X11_80 C hw (hY 100 11 rfl) dX11_vat_80 ?_
      refine W.eq (g2 := F0 m 83 ls [.ref (E.1 122), .int x6]) rfl ?_
      refine lv_iload C.1 C.2.1 dX11_vat_83 (lv_at hl 4 rfl) ?_
      obtain ⟨hc2, hf⟩ := ea_ck_s hf
      refine ea_zald C hw (show ea_ok ids 122 23 from ok_11_38 (hY 100 11 rfl)) hc2 dX11_vat_85 ?_
      refine lv_if_eq (tgt := 103) C.1 C.2.1 dX11_vat_86 (by decide) (fun hc3 => ?_) (fun hc3 => ?_)
      · replace hf := ea_if_t hc3 hf
        exact wX11_vat_103 C hY ih _ _ _ _ _ _ _ _ hf hw (lv_sub hl [0, 1, 3, 4] rfl)
      · replace hf := ea_if_f hc3 hf
        refine lv_aload_n C.1 C.2.1 dX11_vat_89 rfl (lv_at hl 0 rfl) ?_
        refine gf_X11_83 C hw (hY 100 11 rfl) dX11_vat_90 ?_
        refine W.eq (g2 := F0 m 93 ls [.ref (E.1 123), .int x6]) rfl ?_
        refine lv_iload C.1 C.2.1 dX11_vat_93 (lv_at hl 4 rfl) ?_
        obtain ⟨hc4, hf⟩ := ea_ck_s hf
        refine ea_zald C hw (show ea_ok ids 123 23 from ok_11_39 (hY 100 11 rfl)) hc4 dX11_vat_95 ?_
        refine lv_if_eq (tgt := 103) C.1 C.2.1 dX11_vat_96 (by decide) (fun hc5 => ?_) (fun hc5 => ?_)
        · replace hf := ea_if_t hc5 hf
          exact wX11_vat_103 C hY ih _ _ _ _ _ _ _ _ hf hw (lv_sub hl [0, 1, 3, 4] rfl)
        · replace hf := ea_if_f hc5 hf
          refine lv_iconst (v := 1) C.1 C.2.1 dX11_vat_99 (by decide) ?_
          refine lv_goto (tgt := 104) C.1 C.2.1 dX11_vat_100 (by decide) ?_
          exact wX11_vat_104 C hY ih _ _ _ _ _ _ _ _ _ hf hw (lv_sub hl [0, 1, 3, 4] rfl)
set_option maxHeartbeats 4000000 in
set_option maxRecDepth 20000 in
theorem wX11_vat_171 (C : ea_C p s m args meth cd cX11_vat 9 (some .int) RX11) (hY : ea_Y ids) : ∀ (x6 : Int32) (x7 : Int32) (t0 : Int32) (M : eM) (H : Heap) (locs : List Loc) (ls : Array Slot), fX11_vat_171 x6 x7 t0 M = some res → ea_w E ids M s H locs → lv_has ls 9 [(6, .int x6), (7, .int x7)] → W p l e (ea_rm 6 143) s m args below meth cd H locs 0 0 (MQ below (ea_Qi E ids res) args s 0 0 (ea_Ad E ids)) (F0 m 171 ls [.int t0]) := by
  intro x6 x7 t0 M H locs ls hf  hw hl
  replace hf := (fX11_vat_171.eq_1 ..).symm.trans hf
  refine lv_iload C.1 C.2.1 dX11_vat_171 (lv_at hl 0 rfl) ?_
  refine lv_iload C.1 C.2.1 dX11_vat_173 (lv_at hl 1 rfl) ?_
  obtain ⟨r2, M3, he1, hf⟩ := ea_ci_s hf
  refine ea_runi2 hw (cl_X11_330 C hw (As := [.int x6, .int x7]) (rest := [.int t0]) (mX11_common (l := l) (E := E) (ids := ids) hY he1) (by decide) rfl hl.1 rfl (Nat.le_of_ble_eq_true rfl) dX11_vat_175 ⟨Nat.le_refl _, Nat.le_refl _⟩) (fun H locs hw => ?_)
  obtain ⟨hc4, hf⟩ := ea_ck_s hf
  refine lv_idiv C.1 C.2.1 dX11_vat_178 (ea_nz_s hc4) ?_
  exact ea_iret C hw hf dX11_vat_179
set_option maxHeartbeats 4000000 in
set_option maxRecDepth 20000 in
theorem wX11_vat_143 (C : ea_C p s m args meth cd cX11_vat 9 (some .int) RX11) (hY : ea_Y ids) : ∀ (x5 : Int32) (x6 : Int32) (x7 : Int32) (M : eM) (H : Heap) (locs : List Loc) (ls : Array Slot), fX11_vat_143 x5 x6 x7 M = some res → ea_w E ids M s H locs → lv_has ls 9 [(5, .int x5), (6, .int x6), (7, .int x7)] → W p l e (ea_rm 6 143) s m args below meth cd H locs 0 0 (MQ below (ea_Qi E ids res) args s 0 0 (ea_Ad E ids)) (F0 m 143 ls []) := by
  intro x5 x6 x7 M H locs ls hf  hw hl
  replace hf := (fX11_vat_143.eq_1 ..).symm.trans hf
  refine lv_iload C.1 C.2.1 dX11_vat_143 (lv_at hl 2 rfl) ?_
  refine lv_if_ne (tgt := 159) C.1 C.2.1 dX11_vat_145 (by decide) (fun hc1 => ?_) (fun hc1 => ?_)
  · replace hf := ea_if_f hc1 hf
    refine lv_iload C.1 C.2.1 dX11_vat_159 (lv_at hl 0 rfl) ?_
    refine lv_if_eq (tgt := 169) C.1 C.2.1 dX11_vat_161 (by decide) (fun hc2 => ?_) (fun hc2 => ?_)
    · replace hf := ea_if_t hc2 hf
      refine lv_iload C.1 C.2.1 dX11_vat_169 (lv_at hl 1 rfl) ?_
      exact wX11_vat_171 C hY _ _ _ _ _ _ _ hf hw (lv_sub hl [1, 2] rfl)
    · replace hf := ea_if_f hc2 hf
      refine lv_iload C.1 C.2.1 dX11_vat_164 (lv_at hl 2 rfl) ?_
      refine lv_goto (tgt := 171) C.1 C.2.1 dX11_vat_166 (by decide) ?_
      exact wX11_vat_171 C hY _ _ _ _ _ _ _ hf hw (lv_sub hl [1, 2] rfl)
  · replace hf := ea_if_t hc1 hf
    refine lv_iload C.1 C.2.1 dX11_vat_148 (lv_at hl 0 rfl) ?_
    refine lv_if_eq (tgt := 157) C.1 C.2.1 dX11_vat_150 (by decide) (fun hc3 => ?_) (fun hc3 => ?_)
    · replace hf := ea_if_t hc3 hf
      refine lv_iconst (v := 0) C.1 C.2.1 dX11_vat_157 (by decide) ?_
      exact ea_iret C hw hf dX11_vat_158
    · replace hf := ea_if_f hc3 hf
      refine lv_iconst (v := 1) C.1 C.2.1 dX11_vat_153 (by decide) ?_
      refine lv_goto (tgt := 158) C.1 C.2.1 dX11_vat_154 (by decide) ?_
      exact ea_iret C hw hf dX11_vat_158
set_option maxHeartbeats 4000000 in
set_option maxRecDepth 20000 in
theorem wX11_vat_0 (C : ea_C p s m args meth cd cX11_vat 9 (some .int) RX11) (hY : ea_Y ids) : ∀ (x1 : Int32) (x2 : Int32) (x3 : Int32) (x4 : Int32) (x5 : Int32) (M : eM) (H : Heap) (locs : List Loc) (ls : Array Slot), fX11_vat_0 x1 x2 x3 x4 x5 M = some res → ea_w E ids M s H locs → lv_has ls 9 [(0, .ref (E.1 100)), (1, .int x1), (2, .int x2), (3, .int x3), (4, .int x4), (5, .int x5)] → W p l e (ea_rm 6 143) s m args below meth cd H locs 0 0 (MQ below (ea_Qi E ids res) args s 0 0 (ea_Ad E ids)) (F0 m 0 ls []) := by
  intro x1 x2 x3 x4 x5 M H locs ls hf  hw hl
  replace hf := (fX11_vat_0.eq_1 ..).symm.trans hf
  refine lv_aload_n C.1 C.2.1 dX11_vat_0 rfl (lv_at hl 0 rfl) ?_
  refine lv_iload_n C.1 C.2.1 dX11_vat_1 rfl (lv_at hl 1 rfl) ?_
  refine lv_iload_n C.1 C.2.1 dX11_vat_2 rfl (lv_at hl 3 rfl) ?_
  refine lv_iload C.1 C.2.1 dX11_vat_3 (lv_at hl 4 rfl) ?_
  obtain ⟨r2, M3, he1, hf⟩ := ea_ci_s hf
  refine ea_runi2 hw (cl_X11_310 C hw (hY 100 11 rfl) (As := [.int x1, .int x3, .int x4]) (rest := []) (mX11_isAsked (l := l) (E := E) (ids := ids) hY he1) (by decide) rfl hl.1 rfl (Nat.le_of_ble_eq_true rfl) dX11_vat_5 ⟨Nat.le_refl _, Nat.le_refl _⟩) (fun H locs hw => ?_)
  refine lv_if_eq (tgt := 24) C.1 C.2.1 dX11_vat_8 (by decide) (fun hc4 => ?_) (fun hc4 => ?_)
  · replace hf := ea_if_t hc4 hf
    refine lv_bipush (v := (-2 : Int32)) C.1 C.2.1 dX11_vat_24 (by decide) ?_
    exact ea_iret C hw hf dX11_vat_26
  · replace hf := ea_if_f hc4 hf
    refine lv_aload_n C.1 C.2.1 dX11_vat_11 rfl (lv_at hl 0 rfl) ?_
    refine lv_iload_n C.1 C.2.1 dX11_vat_12 rfl (lv_at hl 2 rfl) ?_
    obtain ⟨r6, M7, he5, hf⟩ := ea_ci_s hf
    refine ea_runi2 hw (cl_X11_264 C hw (hY 100 11 rfl) (As := [.int x2]) (rest := []) (mX11_isCell (l := l) (E := E) (ids := ids) hY he5) (by decide) rfl hl.1 rfl (Nat.le_of_ble_eq_true rfl) dX11_vat_13 ⟨Nat.le_refl _, Nat.le_refl _⟩) (fun H locs hw => ?_)
    refine lv_if_eq (tgt := 24) C.1 C.2.1 dX11_vat_16 (by decide) (fun hc8 => ?_) (fun hc8 => ?_)
    · replace hf := ea_if_t hc8 hf
      refine lv_bipush (v := (-2 : Int32)) C.1 C.2.1 dX11_vat_24 (by decide) ?_
      exact ea_iret C hw hf dX11_vat_26
    · replace hf := ea_if_f hc8 hf
      refine lv_iload_n C.1 C.2.1 dX11_vat_19 rfl (lv_at hl 1 rfl) ?_
      refine lv_iload_n C.1 C.2.1 dX11_vat_20 rfl (lv_at hl 2 rfl) ?_
      refine lv_icmp_ne (tgt := 27) C.1 C.2.1 dX11_vat_21 (by decide) (fun hc9 => ?_) (fun hc9 => ?_)
      · replace hf := ea_if_f hc9 hf
        refine lv_aload_n C.1 C.2.1 dX11_vat_27 rfl (lv_at hl 0 rfl) ?_
        refine lv_iload_n C.1 C.2.1 dX11_vat_28 rfl (lv_at hl 1 rfl) ?_
        refine lv_iload_n C.1 C.2.1 dX11_vat_29 rfl (lv_at hl 3 rfl) ?_
        refine lv_iload C.1 C.2.1 dX11_vat_30 (lv_at hl 4 rfl) ?_
        obtain ⟨M11, he10, hf⟩ := ea_cv_s hf
        refine ea_runv hw (cl_X11_313 C hw (hY 100 11 rfl) (As := [.int x1, .int x3, .int x4]) (rest := []) (mX11_findFits (l := l) (E := E) (ids := ids) hY he10) (by decide) rfl hl.1 rfl (Nat.le_of_ble_eq_true rfl) dX11_vat_32 ⟨Nat.le_refl _, Nat.le_refl _⟩) (fun H locs hw => ?_)
        refine lv_aload_n C.1 C.2.1 dX11_vat_35 rfl (lv_at hl 0 rfl) ?_
        refine lv_aload_n C.1 C.2.1 dX11_vat_36 rfl (lv_at hl 0 rfl) ?_
        refine gf_X11_80 C hw (hY 100 11 rfl) dX11_vat_37 ?_
        refine W.eq (g2 := F0 m 40 ls [.ref (E.1 122), .ref (E.1 100)]) rfl ?_
        obtain ⟨M13, he12, hf⟩ := ea_cv_s hf
        refine ea_runv hw (cl_X11_326 C hw (hY 100 11 rfl) (As := [.ref (E.1 122)]) (rest := []) (mX11_mark (l := l) (E := E) (ids := ids) hY (show ea_ok ids 122 23 from ok_11_38 (hY 100 11 rfl)) he12) (by decide) rfl hl.1 rfl (Nat.le_of_ble_eq_true rfl) dX11_vat_40 ⟨Nat.le_refl _, Nat.le_refl _⟩) (fun H locs hw => ?_)
        refine lv_aload_n C.1 C.2.1 dX11_vat_43 rfl (lv_at hl 0 rfl) ?_
        refine lv_iload_n C.1 C.2.1 dX11_vat_44 rfl (lv_at hl 2 rfl) ?_
        refine lv_iload_n C.1 C.2.1 dX11_vat_45 rfl (lv_at hl 3 rfl) ?_
        refine lv_iload C.1 C.2.1 dX11_vat_46 (lv_at hl 4 rfl) ?_
        obtain ⟨M15, he14, hf⟩ := ea_cv_s hf
        refine ea_runv hw (cl_X11_313 C hw (hY 100 11 rfl) (As := [.int x2, .int x3, .int x4]) (rest := []) (mX11_findFits (l := l) (E := E) (ids := ids) hY he14) (by decide) rfl hl.1 rfl (Nat.le_of_ble_eq_true rfl) dX11_vat_48 ⟨Nat.le_refl _, Nat.le_refl _⟩) (fun H locs hw => ?_)
        refine lv_aload_n C.1 C.2.1 dX11_vat_51 rfl (lv_at hl 0 rfl) ?_
        refine lv_aload_n C.1 C.2.1 dX11_vat_52 rfl (lv_at hl 0 rfl) ?_
        refine gf_X11_83 C hw (hY 100 11 rfl) dX11_vat_53 ?_
        refine W.eq (g2 := F0 m 56 ls [.ref (E.1 123), .ref (E.1 100)]) rfl ?_
        obtain ⟨M17, he16, hf⟩ := ea_cv_s hf
        refine ea_runv hw (cl_X11_326 C hw (hY 100 11 rfl) (As := [.ref (E.1 123)]) (rest := []) (mX11_mark (l := l) (E := E) (ids := ids) hY (show ea_ok ids 123 23 from ok_11_39 (hY 100 11 rfl)) he16) (by decide) rfl hl.1 rfl (Nat.le_of_ble_eq_true rfl) dX11_vat_56 ⟨Nat.le_refl _, Nat.le_refl _⟩) (fun H locs hw => ?_)
        refine lv_iconst (v := 0) C.1 C.2.1 dX11_vat_59 (by decide) ?_
        refine lv_istore (lv' := [(6, .int (0 : Int32)), (0, .ref (E.1 100)), (1, .int x1), (2, .int x2), (3, .int x3), (4, .int x4), (5, .int x5)]) C.1 C.2.1 dX11_vat_60 hl (by decide) rfl (fun ls hl => ?_)
        refine lv_iconst (v := 0) C.1 C.2.1 dX11_vat_62 (by decide) ?_
        refine lv_istore (lv' := [(7, .int (0 : Int32)), (6, .int (0 : Int32)), (0, .ref (E.1 100)), (1, .int x1), (2, .int x2), (3, .int x3), (4, .int x4), (5, .int x5)]) C.1 C.2.1 dX11_vat_63 hl (by decide) rfl (fun ls hl => ?_)
        refine lv_iconst (v := 0) C.1 C.2.1 dX11_vat_65 (by decide) ?_
        refine lv_istore (lv' := [(8, .int (0 : Int32)), (7, .int (0 : Int32)), (6, .int (0 : Int32)), (0, .ref (E.1 100)), (1, .int x1), (2, .int x2), (3, .int x3), (4, .int x4), (5, .int x5)]) C.1 C.2.1 dX11_vat_66 hl (by decide) rfl (fun ls hl => ?_)
        exact wX11_vat_68 C hY (wX11_vat_143 C hY) ea_N _ _ _ _ _ _ _ _ hf hw (lv_sub hl [3, 8, 2, 1, 0] rfl)
      · replace hf := ea_if_t hc9 hf
        refine lv_bipush (v := (-2 : Int32)) C.1 C.2.1 dX11_vat_24 (by decide) ?_
        exact ea_iret C hw hf dX11_vat_26
set_option maxHeartbeats 4000000 in
set_option maxRecDepth 20000 in
theorem mX11_vat {l : Launch} {E : eE} {ids : List Nat} (hY : ea_Y ids) {x1 : Int32} {x2 : Int32} {x3 : Int32} {x4 : Int32} {x5 : Int32} {M : eM} {res : Int32 × eM} (hf : fX11_vat x1 x2 x3 x4 x5 M = some res) : ea_Mi l yX11_vat cX11_vat 9 (some .int) 6 143 E ids [.ref (E.1 100), .int x1, .int x2, .int x3, .int x4, .int x5] M res := by
  refine ea_goi (by decide) (Nat.le_of_ble_eq_true rfl) wc_X11_vat ?_
  intro p e s m below meth cd ls C hw hl
  exact wX11_vat_0 C hY _ _ _ _ _ _ _ _ _ hf hw hl
end SX11_vat

def fX11_vats_94 (k53 : Int32 → Int32 → Int32 → Int32 → Int32 → Int32 → eM → Option (Int32 × eM)) (x1 : Int32) (x2 : Int32) (x3 : Int32) (x4 : Int32) (x6 : Int32) (t0 : Int32) (t1 : Int32) (M : eM) : Option (Int32 × eM) := k53 x1 x2 x3 x4 (t1 + t0) (x6 + (1 : Int32)) M
def fX11_vats_53 (k103 : Int32 → Int32 → Int32 → Int32 → Int32 → eM → Option (Int32 × eM)) : Nat → Int32 → Int32 → Int32 → Int32 → Int32 → Int32 → eM → Option (Int32 × eM)
  | 0, _, _, _, _, _, _, _ => none
  | n + 1, x1, x2, x3, x4, x5, x6, M => if x4 ≤ x6 then (k103 x1 x2 x3 x4 x5 M) else (ea_ck (ea_ix x4 (ea_len 124)) (if (M.1 124 x4.toNatClampNeg) < 0 then (k103 x1 x2 x3 x4 x5 M) else (ea_ck (ea_ix x6 (ea_len 124)) (ea_ck (ea_ix x4 (ea_len 124)) (if (M.1 124 x6.toNatClampNeg) = (M.1 124 x4.toNatClampNeg) then (fX11_vats_94 (fX11_vats_53 k103 n) x1 x2 x3 x4 x6 (1 : Int32) x5 M) else (fX11_vats_94 (fX11_vats_53 k103 n) x1 x2 x3 x4 x6 (0 : Int32) x5 M))))))
def fX11_vats_115 (k23 : Int32 → Int32 → Int32 → Int32 → eM → Option (Int32 × eM)) (x1 : Int32) (x2 : Int32) (x4 : Int32) (t0 : Int32) (t1 : Int32) (M : eM) : Option (Int32 × eM) := k23 x1 x2 (t1 + t0) (x4 + (1 : Int32)) M
def fX11_vats_103 (k23 : Int32 → Int32 → Int32 → Int32 → eM → Option (Int32 × eM)) (x1 : Int32) (x2 : Int32) (x3 : Int32) (x4 : Int32) (x5 : Int32) (M : eM) : Option (Int32 × eM) := if x5 = (1 : Int32) then (fX11_vats_115 k23 x1 x2 x4 (1 : Int32) x3 M) else (fX11_vats_115 k23 x1 x2 x4 (0 : Int32) x3 M)
def fX11_vats_23 : Nat → Int32 → Int32 → Int32 → Int32 → eM → Option (Int32 × eM)
  | 0, _, _, _, _, _ => none
  | n + 1, x1, x2, x3, x4, M => ea_ci (fX11_cells M) (fun r2 M3 => if r2 ≤ x4 then (some (x3, M3)) else (ea_ci (fX11_onlyThread x4 x1 x2 M3) (fun r6 M7 => ea_ck (ea_ix x4 (ea_len 124)) (fX11_vats_53 (fX11_vats_103 (fX11_vats_23 n)) ea_N x1 x2 x3 x4 (0 : Int32) (0 : Int32) (ea_pI M7 124 (x4.toNatClampNeg) r6)))))
def fX11_vats_0 (x1 : Int32) (x2 : Int32) (M : eM) : Option (Int32 × eM) := ea_ci (fX11_isStory x1 M) (fun r2 M3 => if r2 = 0 then (some ((-2 : Int32), M3)) else (ea_ci (fX11_isStep x2 M3) (fun r6 M7 => if r6 = 0 then (some ((-2 : Int32), M7)) else (fX11_vats_23 ea_N x1 x2 (0 : Int32) (0 : Int32) M7))))
def fX11_vats (x1 : Int32) (x2 : Int32) (M : eM) : Option (Int32 × eM) := fX11_vats_0 x1 x2 M
section SX11_vats
variable {p : Program} {l : Launch} {e : Env} {s : State} {m : MethodId} {args : Array Value} {below : List Frame} {meth : Method} {cd : Code} {E : eE} {ids : List Nat} {res : Int32 × eM}
set_option maxHeartbeats 4000000 in
set_option maxRecDepth 20000 in
theorem wX11_vats_94 (C : ea_C p s m args meth cd cX11_vats 7 (some .int) RX11) (hY : ea_Y ids) {k53 : Int32 → Int32 → Int32 → Int32 → Int32 → Int32 → eM → Option (Int32 × eM)} (hk53 : ∀ (x1 : Int32) (x2 : Int32) (x3 : Int32) (x4 : Int32) (x5 : Int32) (x6 : Int32) (M : eM) (H : Heap) (locs : List Loc) (ls : Array Slot), k53 x1 x2 x3 x4 x5 x6 M = some res → ea_w E ids M s H locs → lv_has ls 7 [(0, .ref (E.1 100)), (1, .int x1), (2, .int x2), (3, .int x3), (4, .int x4), (5, .int x5), (6, .int x6)] → W p l e (ea_rm 7 166) s m args below meth cd H locs 0 0 (MQ below (ea_Qi E ids res) args s 0 0 (ea_Ad E ids)) (F0 m 53 ls [])) : ∀ (x1 : Int32) (x2 : Int32) (x3 : Int32) (x4 : Int32) (x6 : Int32) (t0 : Int32) (t1 : Int32) (M : eM) (H : Heap) (locs : List Loc) (ls : Array Slot), fX11_vats_94 k53 x1 x2 x3 x4 x6 t0 t1 M = some res → ea_w E ids M s H locs → lv_has ls 7 [(0, .ref (E.1 100)), (1, .int x1), (2, .int x2), (3, .int x3), (4, .int x4), (6, .int x6)] → W p l e (ea_rm 7 166) s m args below meth cd H locs 0 0 (MQ below (ea_Qi E ids res) args s 0 0 (ea_Ad E ids)) (F0 m 94 ls [.int t0, .int t1]) := by
  intro x1 x2 x3 x4 x6 t0 t1 M H locs ls hf  hw hl
  replace hf := (fX11_vats_94.eq_1 ..).symm.trans hf
  refine lv_iadd C.1 C.2.1 dX11_vats_94 ?_
  refine lv_istore (lv' := [(5, .int (t1 + t0)), (0, .ref (E.1 100)), (1, .int x1), (2, .int x2), (3, .int x3), (4, .int x4), (6, .int x6)]) C.1 C.2.1 dX11_vats_95 hl (by decide) rfl (fun ls hl => ?_)
  refine lv_iinc (v := x6 + (1 : Int32)) (lv' := [(6, .int (x6 + (1 : Int32))), (5, .int (t1 + t0)), (0, .ref (E.1 100)), (1, .int x1), (2, .int x2), (3, .int x3), (4, .int x4)]) C.1 C.2.1 dX11_vats_97 hl (k := 6) rfl rfl (by decide) rfl (fun ls hl => ?_)
  refine lv_goto (tgt := 53) C.1 C.2.1 dX11_vats_100 (by decide) ?_
  exact hk53 _ _ _ _ _ _ _ _ _ _ hf hw (lv_sub hl [2, 3, 4, 5, 6, 1, 0] rfl)
set_option maxHeartbeats 4000000 in
set_option maxRecDepth 20000 in
theorem wX11_vats_53 (C : ea_C p s m args meth cd cX11_vats 7 (some .int) RX11) (hY : ea_Y ids) {k103 : Int32 → Int32 → Int32 → Int32 → Int32 → eM → Option (Int32 × eM)} (hk103 : ∀ (x1 : Int32) (x2 : Int32) (x3 : Int32) (x4 : Int32) (x5 : Int32) (M : eM) (H : Heap) (locs : List Loc) (ls : Array Slot), k103 x1 x2 x3 x4 x5 M = some res → ea_w E ids M s H locs → lv_has ls 7 [(0, .ref (E.1 100)), (1, .int x1), (2, .int x2), (3, .int x3), (4, .int x4), (5, .int x5)] → W p l e (ea_rm 7 166) s m args below meth cd H locs 0 0 (MQ below (ea_Qi E ids res) args s 0 0 (ea_Ad E ids)) (F0 m 103 ls [])) : ∀ (n : Nat) (x1 : Int32) (x2 : Int32) (x3 : Int32) (x4 : Int32) (x5 : Int32) (x6 : Int32) (M : eM) (H : Heap) (locs : List Loc) (ls : Array Slot), fX11_vats_53 k103 n x1 x2 x3 x4 x5 x6 M = some res → ea_w E ids M s H locs → lv_has ls 7 [(0, .ref (E.1 100)), (1, .int x1), (2, .int x2), (3, .int x3), (4, .int x4), (5, .int x5), (6, .int x6)] → W p l e (ea_rm 7 166) s m args below meth cd H locs 0 0 (MQ below (ea_Qi E ids res) args s 0 0 (ea_Ad E ids)) (F0 m 53 ls []) := by
  intro n
  induction n with
  | zero => intro x1 x2 x3 x4 x5 x6 M H locs ls hf; cases hf
  | succ n ih =>
    intro x1 x2 x3 x4 x5 x6 M H locs ls hf  hw hl
    replace hf := (fX11_vats_53.eq_2 ..).symm.trans hf
    refine lv_iload C.1 C.2.1 dX11_vats_53 (lv_at hl 6 rfl) ?_
    refine lv_iload C.1 C.2.1 dX11_vats_55 (lv_at hl 4 rfl) ?_
    refine lv_icmp_ge (tgt := 103) C.1 C.2.1 dX11_vats_57 (by decide) (fun hc1 => ?_) (fun hc1 => ?_)
    · replace hf := ea_if_t hc1 hf
      exact hk103 _ _ _ _ _ _ _ _ _ hf hw (lv_sub hl [0, 1, 2, 3, 4, 5] rfl)
    · replace hf := ea_if_f hc1 hf
      refine lv_aload_n C.1 C.2.1 dX11_vats_60 rfl (lv_at hl 0 rfl) ?_
      refine gf_X11_86 C hw (hY 100 11 rfl) dX11_vats_61 ?_
      refine W.eq (g2 := F0 m 64 ls [.ref (E.1 124)]) rfl ?_
      refine lv_iload C.1 C.2.1 dX11_vats_64 (lv_at hl 4 rfl) ?_
      obtain ⟨hc2, hf⟩ := ea_ck_s hf
      refine ea_iald C hw (show ea_ok ids 124 20 from ok_11_40 (hY 100 11 rfl)) hc2 dX11_vats_66 ?_
      refine lv_if_lt (tgt := 103) C.1 C.2.1 dX11_vats_67 (by decide) (fun hc3 => ?_) (fun hc3 => ?_)
      · replace hf := ea_if_t hc3 hf
        exact hk103 _ _ _ _ _ _ _ _ _ hf hw (lv_sub hl [0, 1, 2, 3, 4, 5] rfl)
      · replace hf := ea_if_f hc3 hf
        refine lv_iload C.1 C.2.1 dX11_vats_70 (lv_at hl 5 rfl) ?_
        refine lv_aload_n C.1 C.2.1 dX11_vats_72 rfl (lv_at hl 0 rfl) ?_
        refine gf_X11_86 C hw (hY 100 11 rfl) dX11_vats_73 ?_
        refine W.eq (g2 := F0 m 76 ls [.ref (E.1 124), .int x5]) rfl ?_
        refine lv_iload C.1 C.2.1 dX11_vats_76 (lv_at hl 6 rfl) ?_
        obtain ⟨hc4, hf⟩ := ea_ck_s hf
        refine ea_iald C hw (show ea_ok ids 124 20 from ok_11_40 (hY 100 11 rfl)) hc4 dX11_vats_78 ?_
        refine lv_aload_n C.1 C.2.1 dX11_vats_79 rfl (lv_at hl 0 rfl) ?_
        refine gf_X11_86 C hw (hY 100 11 rfl) dX11_vats_80 ?_
        refine W.eq (g2 := F0 m 83 ls [.ref (E.1 124), .int (M.1 124 x6.toNatClampNeg), .int x5]) rfl ?_
        refine lv_iload C.1 C.2.1 dX11_vats_83 (lv_at hl 4 rfl) ?_
        obtain ⟨hc5, hf⟩ := ea_ck_s hf
        refine ea_iald C hw (show ea_ok ids 124 20 from ok_11_40 (hY 100 11 rfl)) hc5 dX11_vats_85 ?_
        refine lv_icmp_ne (tgt := 93) C.1 C.2.1 dX11_vats_86 (by decide) (fun hc6 => ?_) (fun hc6 => ?_)
        · replace hf := ea_if_f hc6 hf
          refine lv_iconst (v := 0) C.1 C.2.1 dX11_vats_93 (by decide) ?_
          exact wX11_vats_94 C hY ih _ _ _ _ _ _ _ _ _ _ _ hf hw (lv_sub hl [0, 1, 2, 3, 4, 6] rfl)
        · replace hf := ea_if_t hc6 hf
          refine lv_iconst (v := 1) C.1 C.2.1 dX11_vats_89 (by decide) ?_
          refine lv_goto (tgt := 94) C.1 C.2.1 dX11_vats_90 (by decide) ?_
          exact wX11_vats_94 C hY ih _ _ _ _ _ _ _ _ _ _ _ hf hw (lv_sub hl [0, 1, 2, 3, 4, 6] rfl)
set_option maxHeartbeats 4000000 in
set_option maxRecDepth 20000 in
theorem wX11_vats_115 (C : ea_C p s m args meth cd cX11_vats 7 (some .int) RX11) (hY : ea_Y ids) {k23 : Int32 → Int32 → Int32 → Int32 → eM → Option (Int32 × eM)} (hk23 : ∀ (x1 : Int32) (x2 : Int32) (x3 : Int32) (x4 : Int32) (M : eM) (H : Heap) (locs : List Loc) (ls : Array Slot), k23 x1 x2 x3 x4 M = some res → ea_w E ids M s H locs → lv_has ls 7 [(0, .ref (E.1 100)), (1, .int x1), (2, .int x2), (3, .int x3), (4, .int x4)] → W p l e (ea_rm 7 166) s m args below meth cd H locs 0 0 (MQ below (ea_Qi E ids res) args s 0 0 (ea_Ad E ids)) (F0 m 23 ls [])) : ∀ (x1 : Int32) (x2 : Int32) (x4 : Int32) (t0 : Int32) (t1 : Int32) (M : eM) (H : Heap) (locs : List Loc) (ls : Array Slot), fX11_vats_115 k23 x1 x2 x4 t0 t1 M = some res → ea_w E ids M s H locs → lv_has ls 7 [(0, .ref (E.1 100)), (1, .int x1), (2, .int x2), (4, .int x4)] → W p l e (ea_rm 7 166) s m args below meth cd H locs 0 0 (MQ below (ea_Qi E ids res) args s 0 0 (ea_Ad E ids)) (F0 m 115 ls [.int t0, .int t1]) := by
  intro x1 x2 x4 t0 t1 M H locs ls hf  hw hl
  replace hf := (fX11_vats_115.eq_1 ..).symm.trans hf
  refine lv_iadd C.1 C.2.1 dX11_vats_115 ?_
  refine lv_istore_n (lv' := [(3, .int (t1 + t0)), (0, .ref (E.1 100)), (1, .int x1), (2, .int x2), (4, .int x4)]) C.1 C.2.1 dX11_vats_116 rfl hl (by decide) rfl (fun ls hl => ?_)
  refine lv_iinc (v := x4 + (1 : Int32)) (lv' := [(4, .int (x4 + (1 : Int32))), (3, .int (t1 + t0)), (0, .ref (E.1 100)), (1, .int x1), (2, .int x2)]) C.1 C.2.1 dX11_vats_117 hl (k := 4) rfl rfl (by decide) rfl (fun ls hl => ?_)
  refine lv_goto (tgt := 23) C.1 C.2.1 dX11_vats_120 (by decide) ?_
  exact hk23 _ _ _ _ _ _ _ _ hf hw (lv_sub hl [2, 3, 4, 1, 0] rfl)
set_option maxHeartbeats 4000000 in
set_option maxRecDepth 20000 in
theorem wX11_vats_103 (C : ea_C p s m args meth cd cX11_vats 7 (some .int) RX11) (hY : ea_Y ids) {k23 : Int32 → Int32 → Int32 → Int32 → eM → Option (Int32 × eM)} (hk23 : ∀ (x1 : Int32) (x2 : Int32) (x3 : Int32) (x4 : Int32) (M : eM) (H : Heap) (locs : List Loc) (ls : Array Slot), k23 x1 x2 x3 x4 M = some res → ea_w E ids M s H locs → lv_has ls 7 [(0, .ref (E.1 100)), (1, .int x1), (2, .int x2), (3, .int x3), (4, .int x4)] → W p l e (ea_rm 7 166) s m args below meth cd H locs 0 0 (MQ below (ea_Qi E ids res) args s 0 0 (ea_Ad E ids)) (F0 m 23 ls [])) : ∀ (x1 : Int32) (x2 : Int32) (x3 : Int32) (x4 : Int32) (x5 : Int32) (M : eM) (H : Heap) (locs : List Loc) (ls : Array Slot), fX11_vats_103 k23 x1 x2 x3 x4 x5 M = some res → ea_w E ids M s H locs → lv_has ls 7 [(0, .ref (E.1 100)), (1, .int x1), (2, .int x2), (3, .int x3), (4, .int x4), (5, .int x5)] → W p l e (ea_rm 7 166) s m args below meth cd H locs 0 0 (MQ below (ea_Qi E ids res) args s 0 0 (ea_Ad E ids)) (F0 m 103 ls []) := by
  intro x1 x2 x3 x4 x5 M H locs ls hf  hw hl
  replace hf := (fX11_vats_103.eq_1 ..).symm.trans hf
  refine lv_iload_n C.1 C.2.1 dX11_vats_103 rfl (lv_at hl 3 rfl) ?_
  refine lv_iload C.1 C.2.1 dX11_vats_104 (lv_at hl 5 rfl) ?_
  refine lv_iconst (v := 1) C.1 C.2.1 dX11_vats_106 (by decide) ?_
  refine lv_icmp_ne (tgt := 114) C.1 C.2.1 dX11_vats_107 (by decide) (fun hc1 => ?_) (fun hc1 => ?_)
  · replace hf := ea_if_f hc1 hf
    refine lv_iconst (v := 0) C.1 C.2.1 dX11_vats_114 (by decide) ?_
    exact wX11_vats_115 C hY hk23 _ _ _ _ _ _ _ _ _ hf hw (lv_sub hl [0, 1, 2, 4] rfl)
  · replace hf := ea_if_t hc1 hf
    refine lv_iconst (v := 1) C.1 C.2.1 dX11_vats_110 (by decide) ?_
    refine lv_goto (tgt := 115) C.1 C.2.1 dX11_vats_111 (by decide) ?_
    exact wX11_vats_115 C hY hk23 _ _ _ _ _ _ _ _ _ hf hw (lv_sub hl [0, 1, 2, 4] rfl)
set_option maxHeartbeats 4000000 in
set_option maxRecDepth 20000 in
theorem wX11_vats_23 (C : ea_C p s m args meth cd cX11_vats 7 (some .int) RX11) (hY : ea_Y ids) : ∀ (n : Nat) (x1 : Int32) (x2 : Int32) (x3 : Int32) (x4 : Int32) (M : eM) (H : Heap) (locs : List Loc) (ls : Array Slot), fX11_vats_23 n x1 x2 x3 x4 M = some res → ea_w E ids M s H locs → lv_has ls 7 [(0, .ref (E.1 100)), (1, .int x1), (2, .int x2), (3, .int x3), (4, .int x4)] → W p l e (ea_rm 7 166) s m args below meth cd H locs 0 0 (MQ below (ea_Qi E ids res) args s 0 0 (ea_Ad E ids)) (F0 m 23 ls []) := by
  intro n
  induction n with
  | zero => intro x1 x2 x3 x4 M H locs ls hf; cases hf
  | succ n ih =>
    intro x1 x2 x3 x4 M H locs ls hf  hw hl
    replace hf := (fX11_vats_23.eq_2 ..).symm.trans hf
    refine lv_iload C.1 C.2.1 dX11_vats_23 (lv_at hl 4 rfl) ?_
    refine lv_aload_n C.1 C.2.1 dX11_vats_25 rfl (lv_at hl 0 rfl) ?_
    obtain ⟨r2, M3, he1, hf⟩ := ea_ci_s hf
    refine ea_runi2 hw (cl_X11_222 C hw (hY 100 11 rfl) (As := []) (rest := [.int x4]) (mX11_cells (l := l) (E := E) (ids := ids) hY he1) (by decide) rfl hl.1 rfl (Nat.le_of_ble_eq_true rfl) dX11_vats_26 ⟨Nat.le_refl _, Nat.le_refl _⟩) (fun H locs hw => ?_)
    refine lv_icmp_ge (tgt := 123) C.1 C.2.1 dX11_vats_29 (by decide) (fun hc4 => ?_) (fun hc4 => ?_)
    · replace hf := ea_if_t hc4 hf
      refine lv_iload_n C.1 C.2.1 dX11_vats_123 rfl (lv_at hl 3 rfl) ?_
      exact ea_iret C hw hf dX11_vats_124
    · replace hf := ea_if_f hc4 hf
      refine lv_aload_n C.1 C.2.1 dX11_vats_32 rfl (lv_at hl 0 rfl) ?_
      refine gf_X11_86 C hw (hY 100 11 rfl) dX11_vats_33 ?_
      refine W.eq (g2 := F0 m 36 ls [.ref (E.1 124)]) rfl ?_
      refine lv_iload C.1 C.2.1 dX11_vats_36 (lv_at hl 4 rfl) ?_
      refine lv_aload_n C.1 C.2.1 dX11_vats_38 rfl (lv_at hl 0 rfl) ?_
      refine lv_iload C.1 C.2.1 dX11_vats_39 (lv_at hl 4 rfl) ?_
      refine lv_iload_n C.1 C.2.1 dX11_vats_41 rfl (lv_at hl 1 rfl) ?_
      refine lv_iload_n C.1 C.2.1 dX11_vats_42 rfl (lv_at hl 2 rfl) ?_
      obtain ⟨r6, M7, he5, hf⟩ := ea_ci_s hf
      refine ea_runi2 hw (cl_X11_333 C hw (hY 100 11 rfl) (As := [.int x4, .int x1, .int x2]) (rest := [.int x4, .ref (E.1 124)]) (mX11_onlyThread (l := l) (E := E) (ids := ids) hY he5) (by decide) rfl hl.1 rfl (Nat.le_of_ble_eq_true rfl) dX11_vats_43 ⟨Nat.le_refl _, Nat.le_refl _⟩) (fun H locs hw => ?_)
      obtain ⟨hc8, hf⟩ := ea_ck_s hf
      refine ea_iast C hw (show ea_ok ids 124 20 from ok_11_40 (hY 100 11 rfl)) hc8 dX11_vats_46 (fun H locs hw => ?_)
      refine lv_iconst (v := 0) C.1 C.2.1 dX11_vats_47 (by decide) ?_
      refine lv_istore (lv' := [(5, .int (0 : Int32)), (0, .ref (E.1 100)), (1, .int x1), (2, .int x2), (3, .int x3), (4, .int x4)]) C.1 C.2.1 dX11_vats_48 hl (by decide) rfl (fun ls hl => ?_)
      refine lv_iconst (v := 0) C.1 C.2.1 dX11_vats_50 (by decide) ?_
      refine lv_istore (lv' := [(6, .int (0 : Int32)), (5, .int (0 : Int32)), (0, .ref (E.1 100)), (1, .int x1), (2, .int x2), (3, .int x3), (4, .int x4)]) C.1 C.2.1 dX11_vats_51 hl (by decide) rfl (fun ls hl => ?_)
      exact wX11_vats_53 C hY (wX11_vats_103 C hY ih) ea_N _ _ _ _ _ _ _ _ _ _ hf hw (lv_sub hl [2, 3, 4, 5, 6, 1, 0] rfl)
set_option maxHeartbeats 4000000 in
set_option maxRecDepth 20000 in
theorem wX11_vats_0 (C : ea_C p s m args meth cd cX11_vats 7 (some .int) RX11) (hY : ea_Y ids) : ∀ (x1 : Int32) (x2 : Int32) (M : eM) (H : Heap) (locs : List Loc) (ls : Array Slot), fX11_vats_0 x1 x2 M = some res → ea_w E ids M s H locs → lv_has ls 7 [(0, .ref (E.1 100)), (1, .int x1), (2, .int x2)] → W p l e (ea_rm 7 166) s m args below meth cd H locs 0 0 (MQ below (ea_Qi E ids res) args s 0 0 (ea_Ad E ids)) (F0 m 0 ls []) := by
  intro x1 x2 M H locs ls hf  hw hl
  replace hf := (fX11_vats_0.eq_1 ..).symm.trans hf
  refine lv_aload_n C.1 C.2.1 dX11_vats_0 rfl (lv_at hl 0 rfl) ?_
  refine lv_iload_n C.1 C.2.1 dX11_vats_1 rfl (lv_at hl 1 rfl) ?_
  obtain ⟨r2, M3, he1, hf⟩ := ea_ci_s hf
  refine ea_runi2 hw (cl_X11_225 C hw (hY 100 11 rfl) (As := [.int x1]) (rest := []) (mX11_isStory (l := l) (E := E) (ids := ids) hY he1) (by decide) rfl hl.1 rfl (Nat.le_of_ble_eq_true rfl) dX11_vats_2 ⟨Nat.le_refl _, Nat.le_refl _⟩) (fun H locs hw => ?_)
  refine lv_if_eq (tgt := 15) C.1 C.2.1 dX11_vats_5 (by decide) (fun hc4 => ?_) (fun hc4 => ?_)
  · replace hf := ea_if_t hc4 hf
    refine lv_bipush (v := (-2 : Int32)) C.1 C.2.1 dX11_vats_15 (by decide) ?_
    exact ea_iret C hw hf dX11_vats_17
  · replace hf := ea_if_f hc4 hf
    refine lv_iload_n C.1 C.2.1 dX11_vats_8 rfl (lv_at hl 2 rfl) ?_
    obtain ⟨r6, M7, he5, hf⟩ := ea_ci_s hf
    refine ea_runi2 hw (cl_X11_274 C hw (As := [.int x2]) (rest := []) (mX11_isStep (l := l) (E := E) (ids := ids) hY he5) (by decide) rfl hl.1 rfl (Nat.le_of_ble_eq_true rfl) dX11_vats_9 ⟨Nat.le_refl _, Nat.le_refl _⟩) (fun H locs hw => ?_)
    refine lv_if_ne (tgt := 18) C.1 C.2.1 dX11_vats_12 (by decide) (fun hc8 => ?_) (fun hc8 => ?_)
    · replace hf := ea_if_f hc8 hf
      refine lv_iconst (v := 0) C.1 C.2.1 dX11_vats_18 (by decide) ?_
      refine lv_istore_n (lv' := [(3, .int (0 : Int32)), (0, .ref (E.1 100)), (1, .int x1), (2, .int x2)]) C.1 C.2.1 dX11_vats_19 rfl hl (by decide) rfl (fun ls hl => ?_)
      refine lv_iconst (v := 0) C.1 C.2.1 dX11_vats_20 (by decide) ?_
      refine lv_istore (lv' := [(4, .int (0 : Int32)), (3, .int (0 : Int32)), (0, .ref (E.1 100)), (1, .int x1), (2, .int x2)]) C.1 C.2.1 dX11_vats_21 hl (by decide) rfl (fun ls hl => ?_)
      exact wX11_vats_23 C hY ea_N _ _ _ _ _ _ _ _ hf hw (lv_sub hl [2, 3, 4, 1, 0] rfl)
    · replace hf := ea_if_t hc8 hf
      refine lv_bipush (v := (-2 : Int32)) C.1 C.2.1 dX11_vats_15 (by decide) ?_
      exact ea_iret C hw hf dX11_vats_17
set_option maxHeartbeats 4000000 in
set_option maxRecDepth 20000 in
theorem mX11_vats {l : Launch} {E : eE} {ids : List Nat} (hY : ea_Y ids) {x1 : Int32} {x2 : Int32} {M : eM} {res : Int32 × eM} (hf : fX11_vats x1 x2 M = some res) : ea_Mi l yX11_vats cX11_vats 7 (some .int) 7 166 E ids [.ref (E.1 100), .int x1, .int x2] M res := by
  refine ea_goi (by decide) (Nat.le_of_ble_eq_true rfl) wc_X11_vats ?_
  intro p e s m below meth cd ls C hw hl
  exact wX11_vats_0 C hY _ _ _ _ _ _ hf hw hl
end SX11_vats

def fX11_was_0 (x1 : Int32) (x2 : Int32) (x3 : Int32) (x4 : Int32) (x5 : Int32) (M : eM) : Option (Int32 × eM) := ea_ci (fX11_isAsked x1 x2 x3 M) (fun r2 M3 => if r2 = 0 then (some ((-2 : Int32), M3)) else (ea_ci (fX11_isColour x4 M3) (fun r6 M7 => if r6 = 0 then (some ((-2 : Int32), M7)) else (ea_cv (fX11_findFits x1 x2 x3 M7) (fun M10 => ea_ci (fX11_spanEnd x4 x5 M10) (fun r12 M13 => some (r12, M13)))))))
def fX11_was (x1 : Int32) (x2 : Int32) (x3 : Int32) (x4 : Int32) (x5 : Int32) (M : eM) : Option (Int32 × eM) := fX11_was_0 x1 x2 x3 x4 x5 M
section SX11_was
variable {p : Program} {l : Launch} {e : Env} {s : State} {m : MethodId} {args : Array Value} {below : List Frame} {meth : Method} {cd : Code} {E : eE} {ids : List Nat} {res : Int32 × eM}
set_option maxHeartbeats 4000000 in
set_option maxRecDepth 20000 in
theorem wX11_was_0 (C : ea_C p s m args meth cd cX11_was 6 (some .int) RX11) (hY : ea_Y ids) : ∀ (x1 : Int32) (x2 : Int32) (x3 : Int32) (x4 : Int32) (x5 : Int32) (M : eM) (H : Heap) (locs : List Loc) (ls : Array Slot), fX11_was_0 x1 x2 x3 x4 x5 M = some res → ea_w E ids M s H locs → lv_has ls 6 [(0, .ref (E.1 100)), (1, .int x1), (2, .int x2), (3, .int x3), (4, .int x4), (5, .int x5)] → W p l e (ea_rm 6 143) s m args below meth cd H locs 0 0 (MQ below (ea_Qi E ids res) args s 0 0 (ea_Ad E ids)) (F0 m 0 ls []) := by
  intro x1 x2 x3 x4 x5 M H locs ls hf  hw hl
  replace hf := (fX11_was_0.eq_1 ..).symm.trans hf
  refine lv_aload_n C.1 C.2.1 dX11_was_0 rfl (lv_at hl 0 rfl) ?_
  refine lv_iload_n C.1 C.2.1 dX11_was_1 rfl (lv_at hl 1 rfl) ?_
  refine lv_iload_n C.1 C.2.1 dX11_was_2 rfl (lv_at hl 2 rfl) ?_
  refine lv_iload_n C.1 C.2.1 dX11_was_3 rfl (lv_at hl 3 rfl) ?_
  obtain ⟨r2, M3, he1, hf⟩ := ea_ci_s hf
  refine ea_runi2 hw (cl_X11_310 C hw (hY 100 11 rfl) (As := [.int x1, .int x2, .int x3]) (rest := []) (mX11_isAsked (l := l) (E := E) (ids := ids) hY he1) (by decide) rfl hl.1 rfl (Nat.le_of_ble_eq_true rfl) dX11_was_4 ⟨Nat.le_refl _, Nat.le_refl _⟩) (fun H locs hw => ?_)
  refine lv_if_eq (tgt := 18) C.1 C.2.1 dX11_was_7 (by decide) (fun hc4 => ?_) (fun hc4 => ?_)
  · replace hf := ea_if_t hc4 hf
    refine lv_bipush (v := (-2 : Int32)) C.1 C.2.1 dX11_was_18 (by decide) ?_
    exact ea_iret C hw hf dX11_was_20
  · replace hf := ea_if_f hc4 hf
    refine lv_iload C.1 C.2.1 dX11_was_10 (lv_at hl 4 rfl) ?_
    obtain ⟨r6, M7, he5, hf⟩ := ea_ci_s hf
    refine ea_runi2 hw (cl_X11_254 C hw (As := [.int x4]) (rest := []) (mX11_isColour (l := l) (E := E) (ids := ids) hY he5) (by decide) rfl hl.1 rfl (Nat.le_of_ble_eq_true rfl) dX11_was_12 ⟨Nat.le_refl _, Nat.le_refl _⟩) (fun H locs hw => ?_)
    refine lv_if_ne (tgt := 21) C.1 C.2.1 dX11_was_15 (by decide) (fun hc8 => ?_) (fun hc8 => ?_)
    · replace hf := ea_if_f hc8 hf
      refine lv_aload_n C.1 C.2.1 dX11_was_21 rfl (lv_at hl 0 rfl) ?_
      refine lv_iload_n C.1 C.2.1 dX11_was_22 rfl (lv_at hl 1 rfl) ?_
      refine lv_iload_n C.1 C.2.1 dX11_was_23 rfl (lv_at hl 2 rfl) ?_
      refine lv_iload_n C.1 C.2.1 dX11_was_24 rfl (lv_at hl 3 rfl) ?_
      obtain ⟨M10, he9, hf⟩ := ea_cv_s hf
      refine ea_runv hw (cl_X11_313 C hw (hY 100 11 rfl) (As := [.int x1, .int x2, .int x3]) (rest := []) (mX11_findFits (l := l) (E := E) (ids := ids) hY he9) (by decide) rfl hl.1 rfl (Nat.le_of_ble_eq_true rfl) dX11_was_25 ⟨Nat.le_refl _, Nat.le_refl _⟩) (fun H locs hw => ?_)
      refine lv_aload_n C.1 C.2.1 dX11_was_28 rfl (lv_at hl 0 rfl) ?_
      refine lv_iload C.1 C.2.1 dX11_was_29 (lv_at hl 4 rfl) ?_
      refine lv_iload C.1 C.2.1 dX11_was_31 (lv_at hl 5 rfl) ?_
      obtain ⟨r12, M13, he11, hf⟩ := ea_ci_s hf
      refine ea_runi2 hw (cl_X11_316 C hw (hY 100 11 rfl) (As := [.int x4, .int x5]) (rest := []) (mX11_spanEnd (l := l) (E := E) (ids := ids) hY he11) (by decide) rfl hl.1 rfl (Nat.le_of_ble_eq_true rfl) dX11_was_33 ⟨Nat.le_refl _, Nat.le_refl _⟩) (fun H locs hw => ?_)
      exact ea_iret C hw hf dX11_was_36
    · replace hf := ea_if_t hc8 hf
      refine lv_bipush (v := (-2 : Int32)) C.1 C.2.1 dX11_was_18 (by decide) ?_
      exact ea_iret C hw hf dX11_was_20
set_option maxHeartbeats 4000000 in
set_option maxRecDepth 20000 in
theorem mX11_was {l : Launch} {E : eE} {ids : List Nat} (hY : ea_Y ids) {x1 : Int32} {x2 : Int32} {x3 : Int32} {x4 : Int32} {x5 : Int32} {M : eM} {res : Int32 × eM} (hf : fX11_was x1 x2 x3 x4 x5 M = some res) : ea_Mi l yX11_was cX11_was 6 (some .int) 6 143 E ids [.ref (E.1 100), .int x1, .int x2, .int x3, .int x4, .int x5] M res := by
  refine ea_goi (by decide) (Nat.le_of_ble_eq_true rfl) wc_X11_was ?_
  intro p e s m below meth cd ls C hw hl
  exact wX11_was_0 C hY _ _ _ _ _ _ _ _ _ hf hw hl
end SX11_was

def fX11_world_161 (k88 : Int32 → Int32 → Int32 → Int32 → Int32 → Int32 → Int32 → eM → Option (Int32 × eM)) (x1 : Int32) (x3 : Int32) (x5 : Int32) (x6 : Int32) (x7 : Int32) (x8 : Int32) (t0 : Int32) (t1 : Int32) (M : eM) : Option (Int32 × eM) := k88 x1 x3 (t1 + t0) x5 x6 x7 (x8 + (1 : Int32)) M
def fX11_world_88 (k170 : Int32 → Int32 → Int32 → Int32 → eM → Option (Int32 × eM)) : Nat → Int32 → Int32 → Int32 → Int32 → Int32 → Int32 → Int32 → eM → Option (Int32 × eM)
  | 0, _, _, _, _, _, _, _, _ => none
  | n + 1, x1, x3, x4, x5, x6, x7, x8, M => if (2 : Int32) ≤ x8 then (k170 x1 x3 x4 x5 M) else (ea_ck (ea_nz (M.1 102 (0 : Int32).toNatClampNeg)) (ea_ci (fX11_hoursOf x3 (x5 - x5 / (M.1 102 (0 : Int32).toNatClampNeg) * (M.1 102 (0 : Int32).toNatClampNeg)) x7 x8 M) (fun r4 M5 => ea_ci (fX11_colourOf x6 r4 (0 : Int32) M5) (fun r7 M8 => ea_ci (fX11_colourOf x6 r4 (1 : Int32) M8) (fun r10 M11 => ea_ci (fX11_colourOf x6 r4 (2 : Int32) M11) (fun r13 M14 => ea_ci (fX11_addLook x1 x5 x8 r7 r10 r13 (0 : Int32) M14) (fun r16 M17 => if r16 ≤ 0 then (fX11_world_161 (fX11_world_88 k170 n) x1 x3 x5 x6 x7 x8 (0 : Int32) x4 M17) else (fX11_world_161 (fX11_world_88 k170 n) x1 x3 x5 x6 x7 x8 (1 : Int32) x4 M17))))))))
def fX11_world_170 (k42 : Int32 → Int32 → Int32 → Int32 → eM → Option (Int32 × eM)) (x1 : Int32) (x3 : Int32) (x4 : Int32) (x5 : Int32) (M : eM) : Option (Int32 × eM) := k42 x1 x3 x4 (x5 + (1 : Int32)) M
def fX11_world_42 : Nat → Int32 → Int32 → Int32 → Int32 → eM → Option (Int32 × eM)
  | 0, _, _, _, _, _ => none
  | n + 1, x1, x3, x4, x5, M => ea_ci (fX11_cells M) (fun r2 M3 => if r2 ≤ x5 then (some (x4, M3)) else (if (M3.1 102 (4 : Int32).toNatClampNeg) ≤ 0 then (some (x4, M3)) else (ea_ci (fX11_drawThread M3) (fun r7 M8 => ea_ci (fX11_draw ((1 : Int32) + (M8.1 102 (7 : Int32).toNatClampNeg)) M8) (fun r10 M11 => ea_ci (fX11_yearAt r10 M11) (fun r13 M14 => fX11_world_88 (fX11_world_170 (fX11_world_42 n)) ea_N x1 x3 x4 x5 r7 r13 (0 : Int32) M14))))))
def fX11_world_0 (x1 : Int32) (x2 : Int32) (x3 : Int32) (M : eM) : Option (Int32 × eM) := ea_ci (fX11_isTelling x1 M) (fun r2 M3 => if r2 = 0 then (some ((-2 : Int32), M3)) else (if x2 < 0 then (some ((-2 : Int32), M3)) else (ea_ci (fX11_isStory x3 M3) (fun r7 M8 => if r7 = 0 then (some ((-2 : Int32), M8)) else (fX11_world_42 ea_N x1 x3 (0 : Int32) (0 : Int32) (ea_pI (ea_pL M8 100 47 x2.toInt64) 114 ((3 : Int32).toNatClampNeg) x1))))))
def fX11_world (x1 : Int32) (x2 : Int32) (x3 : Int32) (M : eM) : Option (Int32 × eM) := fX11_world_0 x1 x2 x3 M
section SX11_world
variable {p : Program} {l : Launch} {e : Env} {s : State} {m : MethodId} {args : Array Value} {below : List Frame} {meth : Method} {cd : Code} {E : eE} {ids : List Nat} {res : Int32 × eM}
set_option maxHeartbeats 4000000 in
set_option maxRecDepth 20000 in
theorem wX11_world_161 (C : ea_C p s m args meth cd cX11_world 10 (some .int) RX11) (hY : ea_Y ids) {k88 : Int32 → Int32 → Int32 → Int32 → Int32 → Int32 → Int32 → eM → Option (Int32 × eM)} (hk88 : ∀ (x1 : Int32) (x3 : Int32) (x4 : Int32) (x5 : Int32) (x6 : Int32) (x7 : Int32) (x8 : Int32) (M : eM) (H : Heap) (locs : List Loc) (ls : Array Slot), k88 x1 x3 x4 x5 x6 x7 x8 M = some res → ea_w E ids M s H locs → lv_has ls 10 [(0, .ref (E.1 100)), (1, .int x1), (3, .int x3), (4, .int x4), (5, .int x5), (6, .int x6), (7, .int x7), (8, .int x8)] → W p l e (ea_rm 4 91) s m args below meth cd H locs 0 0 (MQ below (ea_Qi E ids res) args s 0 0 (ea_Ad E ids)) (F0 m 88 ls [])) : ∀ (x1 : Int32) (x3 : Int32) (x5 : Int32) (x6 : Int32) (x7 : Int32) (x8 : Int32) (t0 : Int32) (t1 : Int32) (M : eM) (H : Heap) (locs : List Loc) (ls : Array Slot), fX11_world_161 k88 x1 x3 x5 x6 x7 x8 t0 t1 M = some res → ea_w E ids M s H locs → lv_has ls 10 [(0, .ref (E.1 100)), (1, .int x1), (3, .int x3), (5, .int x5), (6, .int x6), (7, .int x7), (8, .int x8)] → W p l e (ea_rm 4 91) s m args below meth cd H locs 0 0 (MQ below (ea_Qi E ids res) args s 0 0 (ea_Ad E ids)) (F0 m 161 ls [.int t0, .int t1]) := by
  intro x1 x3 x5 x6 x7 x8 t0 t1 M H locs ls hf  hw hl
  replace hf := (fX11_world_161.eq_1 ..).symm.trans hf
  refine lv_iadd C.1 C.2.1 dX11_world_161 ?_
  refine lv_istore (lv' := [(4, .int (t1 + t0)), (0, .ref (E.1 100)), (1, .int x1), (3, .int x3), (5, .int x5), (6, .int x6), (7, .int x7), (8, .int x8)]) C.1 C.2.1 dX11_world_162 hl (by decide) rfl (fun ls hl => ?_)
  refine lv_iinc (v := x8 + (1 : Int32)) (lv' := [(8, .int (x8 + (1 : Int32))), (4, .int (t1 + t0)), (0, .ref (E.1 100)), (1, .int x1), (3, .int x3), (5, .int x5), (6, .int x6), (7, .int x7)]) C.1 C.2.1 dX11_world_164 hl (k := 7) rfl rfl (by decide) rfl (fun ls hl => ?_)
  refine lv_goto (tgt := 88) C.1 C.2.1 dX11_world_167 (by decide) ?_
  exact hk88 _ _ _ _ _ _ _ _ _ _ _ hf hw (lv_sub hl [2, 3, 4, 1, 5, 6, 7, 0] rfl)
set_option maxHeartbeats 4000000 in
set_option maxRecDepth 20000 in
theorem wX11_world_88 (C : ea_C p s m args meth cd cX11_world 10 (some .int) RX11) (hY : ea_Y ids) {k170 : Int32 → Int32 → Int32 → Int32 → eM → Option (Int32 × eM)} (hk170 : ∀ (x1 : Int32) (x3 : Int32) (x4 : Int32) (x5 : Int32) (M : eM) (H : Heap) (locs : List Loc) (ls : Array Slot), k170 x1 x3 x4 x5 M = some res → ea_w E ids M s H locs → lv_has ls 10 [(0, .ref (E.1 100)), (1, .int x1), (3, .int x3), (4, .int x4), (5, .int x5)] → W p l e (ea_rm 4 91) s m args below meth cd H locs 0 0 (MQ below (ea_Qi E ids res) args s 0 0 (ea_Ad E ids)) (F0 m 170 ls [])) : ∀ (n : Nat) (x1 : Int32) (x3 : Int32) (x4 : Int32) (x5 : Int32) (x6 : Int32) (x7 : Int32) (x8 : Int32) (M : eM) (H : Heap) (locs : List Loc) (ls : Array Slot), fX11_world_88 k170 n x1 x3 x4 x5 x6 x7 x8 M = some res → ea_w E ids M s H locs → lv_has ls 10 [(0, .ref (E.1 100)), (1, .int x1), (3, .int x3), (4, .int x4), (5, .int x5), (6, .int x6), (7, .int x7), (8, .int x8)] → W p l e (ea_rm 4 91) s m args below meth cd H locs 0 0 (MQ below (ea_Qi E ids res) args s 0 0 (ea_Ad E ids)) (F0 m 88 ls []) := by
  intro n
  induction n with
  | zero => intro x1 x3 x4 x5 x6 x7 x8 M H locs ls hf; cases hf
  | succ n ih =>
    intro x1 x3 x4 x5 x6 x7 x8 M H locs ls hf  hw hl
    replace hf := (fX11_world_88.eq_2 ..).symm.trans hf
    refine lv_iload C.1 C.2.1 dX11_world_88 (lv_at hl 7 rfl) ?_
    refine lv_iconst (v := 2) C.1 C.2.1 dX11_world_90 (by decide) ?_
    refine lv_icmp_ge (tgt := 170) C.1 C.2.1 dX11_world_91 (by decide) (fun hc1 => ?_) (fun hc1 => ?_)
    · replace hf := ea_if_t hc1 hf
      exact hk170 _ _ _ _ _ _ _ _ hf hw (lv_sub hl [0, 1, 2, 3, 4] rfl)
    · replace hf := ea_if_f hc1 hf
      refine lv_aload_n C.1 C.2.1 dX11_world_94 rfl (lv_at hl 0 rfl) ?_
      refine lv_iload_n C.1 C.2.1 dX11_world_95 rfl (lv_at hl 2 rfl) ?_
      refine lv_iload C.1 C.2.1 dX11_world_96 (lv_at hl 4 rfl) ?_
      refine lv_aload_n C.1 C.2.1 dX11_world_98 rfl (lv_at hl 0 rfl) ?_
      refine gf_X11_17 C hw (hY 100 11 rfl) dX11_world_99 ?_
      refine W.eq (g2 := F0 m 102 ls [.ref (E.1 102), .int x5, .int x3, .ref (E.1 100)]) rfl ?_
      refine lv_iconst (v := 0) C.1 C.2.1 dX11_world_102 (by decide) ?_
      refine ea_iald C hw (show ea_ok ids 102 20 from ok_11_12 (hY 100 11 rfl)) (by decide) dX11_world_103 ?_
      obtain ⟨hc2, hf⟩ := ea_ck_s hf
      refine lv_irem C.1 C.2.1 dX11_world_104 (ea_nz_s hc2) ?_
      refine lv_iload C.1 C.2.1 dX11_world_105 (lv_at hl 6 rfl) ?_
      refine lv_iload C.1 C.2.1 dX11_world_107 (lv_at hl 7 rfl) ?_
      obtain ⟨r4, M5, he3, hf⟩ := ea_ci_s hf
      refine ea_runi2 hw (cl_X11_244 C hw (hY 100 11 rfl) (As := [.int x3, .int (x5 - x5 / (M.1 102 (0 : Int32).toNatClampNeg) * (M.1 102 (0 : Int32).toNatClampNeg)), .int x7, .int x8]) (rest := []) (mX11_hoursOf (l := l) (E := E) (ids := ids) hY he3) (by decide) rfl hl.1 rfl (Nat.le_of_ble_eq_true rfl) dX11_world_109 ⟨Nat.le_refl _, Nat.le_refl _⟩) (fun H locs hw => ?_)
      refine lv_istore (lv' := [(9, .int r4), (0, .ref (E.1 100)), (1, .int x1), (3, .int x3), (4, .int x4), (5, .int x5), (6, .int x6), (7, .int x7), (8, .int x8)]) C.1 C.2.1 dX11_world_112 hl (by decide) rfl (fun ls hl => ?_)
      refine lv_iload C.1 C.2.1 dX11_world_114 (lv_at hl 4 rfl) ?_
      refine lv_aload_n C.1 C.2.1 dX11_world_116 rfl (lv_at hl 1 rfl) ?_
      refine lv_iload_n C.1 C.2.1 dX11_world_117 rfl (lv_at hl 2 rfl) ?_
      refine lv_iload C.1 C.2.1 dX11_world_118 (lv_at hl 5 rfl) ?_
      refine lv_iload C.1 C.2.1 dX11_world_120 (lv_at hl 8 rfl) ?_
      refine lv_aload_n C.1 C.2.1 dX11_world_122 rfl (lv_at hl 1 rfl) ?_
      refine lv_iload C.1 C.2.1 dX11_world_123 (lv_at hl 6 rfl) ?_
      refine lv_iload C.1 C.2.1 dX11_world_125 (lv_at hl 0 rfl) ?_
      refine lv_iconst (v := 0) C.1 C.2.1 dX11_world_127 (by decide) ?_
      obtain ⟨r7, M8, he6, hf⟩ := ea_ci_s hf
      refine ea_runi2 hw (cl_X11_257 C hw (hY 100 11 rfl) (As := [.int x6, .int r4, .int (0 : Int32)]) (rest := [.int x8, .int x5, .int x1, .ref (E.1 100), .int x4]) (mX11_colourOf (l := l) (E := E) (ids := ids) hY he6) (by decide) rfl hl.1 rfl (Nat.le_of_ble_eq_true rfl) dX11_world_128 ⟨Nat.le_refl _, Nat.le_refl _⟩) (fun H locs hw => ?_)
      refine lv_aload_n C.1 C.2.1 dX11_world_131 rfl (lv_at hl 1 rfl) ?_
      refine lv_iload C.1 C.2.1 dX11_world_132 (lv_at hl 6 rfl) ?_
      refine lv_iload C.1 C.2.1 dX11_world_134 (lv_at hl 0 rfl) ?_
      refine lv_iconst (v := 1) C.1 C.2.1 dX11_world_136 (by decide) ?_
      obtain ⟨r10, M11, he9, hf⟩ := ea_ci_s hf
      refine ea_runi2 hw (cl_X11_257 C hw (hY 100 11 rfl) (As := [.int x6, .int r4, .int (1 : Int32)]) (rest := [.int r7, .int x8, .int x5, .int x1, .ref (E.1 100), .int x4]) (mX11_colourOf (l := l) (E := E) (ids := ids) hY he9) (by decide) rfl hl.1 rfl (Nat.le_of_ble_eq_true rfl) dX11_world_137 ⟨Nat.le_refl _, Nat.le_refl _⟩) (fun H locs hw => ?_)
      refine lv_aload_n C.1 C.2.1 dX11_world_140 rfl (lv_at hl 1 rfl) ?_
      refine lv_iload C.1 C.2.1 dX11_world_141 (lv_at hl 6 rfl) ?_
      refine lv_iload C.1 C.2.1 dX11_world_143 (lv_at hl 0 rfl) ?_
      refine lv_iconst (v := 2) C.1 C.2.1 dX11_world_145 (by decide) ?_
      obtain ⟨r13, M14, he12, hf⟩ := ea_ci_s hf
      refine ea_runi2 hw (cl_X11_257 C hw (hY 100 11 rfl) (As := [.int x6, .int r4, .int (2 : Int32)]) (rest := [.int r10, .int r7, .int x8, .int x5, .int x1, .ref (E.1 100), .int x4]) (mX11_colourOf (l := l) (E := E) (ids := ids) hY he12) (by decide) rfl hl.1 rfl (Nat.le_of_ble_eq_true rfl) dX11_world_146 ⟨Nat.le_refl _, Nat.le_refl _⟩) (fun H locs hw => ?_)
      refine lv_iconst (v := 0) C.1 C.2.1 dX11_world_149 (by decide) ?_
      obtain ⟨r16, M17, he15, hf⟩ := ea_ci_s hf
      refine ea_runi2 hw (cl_X11_270 C hw (hY 100 11 rfl) (As := [.int x1, .int x5, .int x8, .int r7, .int r10, .int r13, .int (0 : Int32)]) (rest := [.int x4]) (mX11_addLook (l := l) (E := E) (ids := ids) hY he15) (by decide) rfl hl.1 rfl (Nat.le_of_ble_eq_true rfl) dX11_world_150 ⟨Nat.le_refl _, Nat.le_refl _⟩) (fun H locs hw => ?_)
      refine lv_if_le (tgt := 160) C.1 C.2.1 dX11_world_153 (by decide) (fun hc18 => ?_) (fun hc18 => ?_)
      · replace hf := ea_if_t hc18 hf
        refine lv_iconst (v := 0) C.1 C.2.1 dX11_world_160 (by decide) ?_
        exact wX11_world_161 C hY ih _ _ _ _ _ _ _ _ _ _ _ _ hf hw (lv_sub hl [1, 2, 3, 5, 6, 7, 8] rfl)
      · replace hf := ea_if_f hc18 hf
        refine lv_iconst (v := 1) C.1 C.2.1 dX11_world_156 (by decide) ?_
        refine lv_goto (tgt := 161) C.1 C.2.1 dX11_world_157 (by decide) ?_
        exact wX11_world_161 C hY ih _ _ _ _ _ _ _ _ _ _ _ _ hf hw (lv_sub hl [1, 2, 3, 5, 6, 7, 8] rfl)
set_option maxHeartbeats 4000000 in
set_option maxRecDepth 20000 in
theorem wX11_world_170 (C : ea_C p s m args meth cd cX11_world 10 (some .int) RX11) (hY : ea_Y ids) {k42 : Int32 → Int32 → Int32 → Int32 → eM → Option (Int32 × eM)} (hk42 : ∀ (x1 : Int32) (x3 : Int32) (x4 : Int32) (x5 : Int32) (M : eM) (H : Heap) (locs : List Loc) (ls : Array Slot), k42 x1 x3 x4 x5 M = some res → ea_w E ids M s H locs → lv_has ls 10 [(0, .ref (E.1 100)), (1, .int x1), (3, .int x3), (4, .int x4), (5, .int x5)] → W p l e (ea_rm 4 91) s m args below meth cd H locs 0 0 (MQ below (ea_Qi E ids res) args s 0 0 (ea_Ad E ids)) (F0 m 42 ls [])) : ∀ (x1 : Int32) (x3 : Int32) (x4 : Int32) (x5 : Int32) (M : eM) (H : Heap) (locs : List Loc) (ls : Array Slot), fX11_world_170 k42 x1 x3 x4 x5 M = some res → ea_w E ids M s H locs → lv_has ls 10 [(0, .ref (E.1 100)), (1, .int x1), (3, .int x3), (4, .int x4), (5, .int x5)] → W p l e (ea_rm 4 91) s m args below meth cd H locs 0 0 (MQ below (ea_Qi E ids res) args s 0 0 (ea_Ad E ids)) (F0 m 170 ls []) := by
  intro x1 x3 x4 x5 M H locs ls hf  hw hl
  replace hf := (fX11_world_170.eq_1 ..).symm.trans hf
  refine lv_iinc (v := x5 + (1 : Int32)) (lv' := [(5, .int (x5 + (1 : Int32))), (0, .ref (E.1 100)), (1, .int x1), (3, .int x3), (4, .int x4)]) C.1 C.2.1 dX11_world_170 hl (k := 4) rfl rfl (by decide) rfl (fun ls hl => ?_)
  refine lv_goto (tgt := 42) C.1 C.2.1 dX11_world_173 (by decide) ?_
  exact hk42 _ _ _ _ _ _ _ _ hf hw (lv_sub hl [1, 2, 3, 4, 0] rfl)
set_option maxHeartbeats 4000000 in
set_option maxRecDepth 20000 in
theorem wX11_world_42 (C : ea_C p s m args meth cd cX11_world 10 (some .int) RX11) (hY : ea_Y ids) : ∀ (n : Nat) (x1 : Int32) (x3 : Int32) (x4 : Int32) (x5 : Int32) (M : eM) (H : Heap) (locs : List Loc) (ls : Array Slot), fX11_world_42 n x1 x3 x4 x5 M = some res → ea_w E ids M s H locs → lv_has ls 10 [(0, .ref (E.1 100)), (1, .int x1), (3, .int x3), (4, .int x4), (5, .int x5)] → W p l e (ea_rm 4 91) s m args below meth cd H locs 0 0 (MQ below (ea_Qi E ids res) args s 0 0 (ea_Ad E ids)) (F0 m 42 ls []) := by
  intro n
  induction n with
  | zero => intro x1 x3 x4 x5 M H locs ls hf; cases hf
  | succ n ih =>
    intro x1 x3 x4 x5 M H locs ls hf  hw hl
    replace hf := (fX11_world_42.eq_2 ..).symm.trans hf
    refine lv_iload C.1 C.2.1 dX11_world_42 (lv_at hl 4 rfl) ?_
    refine lv_aload_n C.1 C.2.1 dX11_world_44 rfl (lv_at hl 0 rfl) ?_
    obtain ⟨r2, M3, he1, hf⟩ := ea_ci_s hf
    refine ea_runi2 hw (cl_X11_222 C hw (hY 100 11 rfl) (As := []) (rest := [.int x5]) (mX11_cells (l := l) (E := E) (ids := ids) hY he1) (by decide) rfl hl.1 rfl (Nat.le_of_ble_eq_true rfl) dX11_world_45 ⟨Nat.le_refl _, Nat.le_refl _⟩) (fun H locs hw => ?_)
    refine lv_icmp_ge (tgt := 176) C.1 C.2.1 dX11_world_48 (by decide) (fun hc4 => ?_) (fun hc4 => ?_)
    · replace hf := ea_if_t hc4 hf
      refine lv_iload C.1 C.2.1 dX11_world_176 (lv_at hl 3 rfl) ?_
      exact ea_iret C hw hf dX11_world_178
    · replace hf := ea_if_f hc4 hf
      refine lv_aload_n C.1 C.2.1 dX11_world_51 rfl (lv_at hl 0 rfl) ?_
      refine gf_X11_17 C hw (hY 100 11 rfl) dX11_world_52 ?_
      refine W.eq (g2 := F0 m 55 ls [.ref (E.1 102)]) rfl ?_
      refine lv_iconst (v := 4) C.1 C.2.1 dX11_world_55 (by decide) ?_
      refine ea_iald C hw (show ea_ok ids 102 20 from ok_11_12 (hY 100 11 rfl)) (by decide) dX11_world_56 ?_
      refine lv_if_le (tgt := 176) C.1 C.2.1 dX11_world_57 (by decide) (fun hc5 => ?_) (fun hc5 => ?_)
      · replace hf := ea_if_t hc5 hf
        refine lv_iload C.1 C.2.1 dX11_world_176 (lv_at hl 3 rfl) ?_
        exact ea_iret C hw hf dX11_world_178
      · replace hf := ea_if_f hc5 hf
        refine lv_aload_n C.1 C.2.1 dX11_world_60 rfl (lv_at hl 0 rfl) ?_
        obtain ⟨r7, M8, he6, hf⟩ := ea_ci_s hf
        refine ea_runi2 hw (cl_X11_376 C hw (hY 100 11 rfl) (As := []) (rest := []) (mX11_drawThread (l := l) (E := E) (ids := ids) hY he6) (by decide) rfl hl.1 rfl (Nat.le_of_ble_eq_true rfl) dX11_world_61 ⟨Nat.le_refl _, Nat.le_refl _⟩) (fun H locs hw => ?_)
        refine lv_istore (lv' := [(6, .int r7), (0, .ref (E.1 100)), (1, .int x1), (3, .int x3), (4, .int x4), (5, .int x5)]) C.1 C.2.1 dX11_world_64 hl (by decide) rfl (fun ls hl => ?_)
        refine lv_aload_n C.1 C.2.1 dX11_world_66 rfl (lv_at hl 1 rfl) ?_
        refine lv_aload_n C.1 C.2.1 dX11_world_67 rfl (lv_at hl 1 rfl) ?_
        refine lv_iconst (v := 1) C.1 C.2.1 dX11_world_68 (by decide) ?_
        refine lv_aload_n C.1 C.2.1 dX11_world_69 rfl (lv_at hl 1 rfl) ?_
        refine gf_X11_17 C hw (hY 100 11 rfl) dX11_world_70 ?_
        refine W.eq (g2 := F0 m 73 ls [.ref (E.1 102), .int (1 : Int32), .ref (E.1 100), .ref (E.1 100)]) rfl ?_
        refine lv_bipush (v := 7) C.1 C.2.1 dX11_world_73 (by decide) ?_
        refine ea_iald C hw (show ea_ok ids 102 20 from ok_11_12 (hY 100 11 rfl)) (by decide) dX11_world_75 ?_
        refine lv_iadd C.1 C.2.1 dX11_world_76 ?_
        obtain ⟨r10, M11, he9, hf⟩ := ea_ci_s hf
        refine ea_runi2 hw (cl_X11_370 C hw (hY 100 11 rfl) (As := [.int ((1 : Int32) + (M8.1 102 (7 : Int32).toNatClampNeg))]) (rest := [.ref (E.1 100)]) (mX11_draw (l := l) (E := E) (ids := ids) hY he9) (by decide) rfl hl.1 rfl (Nat.le_of_ble_eq_true rfl) dX11_world_77 ⟨Nat.le_refl _, Nat.le_refl _⟩) (fun H locs hw => ?_)
        obtain ⟨r13, M14, he12, hf⟩ := ea_ci_s hf
        refine ea_runi2 hw (cl_X11_297 C hw (hY 100 11 rfl) (As := [.int r10]) (rest := []) (mX11_yearAt (l := l) (E := E) (ids := ids) hY he12) (by decide) rfl hl.1 rfl (Nat.le_of_ble_eq_true rfl) dX11_world_80 ⟨Nat.le_refl _, Nat.le_refl _⟩) (fun H locs hw => ?_)
        refine lv_istore (lv' := [(7, .int r13), (6, .int r7), (0, .ref (E.1 100)), (1, .int x1), (3, .int x3), (4, .int x4), (5, .int x5)]) C.1 C.2.1 dX11_world_83 hl (by decide) rfl (fun ls hl => ?_)
        refine lv_iconst (v := 0) C.1 C.2.1 dX11_world_85 (by decide) ?_
        refine lv_istore (lv' := [(8, .int (0 : Int32)), (7, .int r13), (6, .int r7), (0, .ref (E.1 100)), (1, .int x1), (3, .int x3), (4, .int x4), (5, .int x5)]) C.1 C.2.1 dX11_world_86 hl (by decide) rfl (fun ls hl => ?_)
        exact wX11_world_88 C hY (wX11_world_170 C hY ih) ea_N _ _ _ _ _ _ _ _ _ _ _ hf hw (lv_sub hl [3, 4, 5, 6, 7, 2, 1, 0] rfl)
set_option maxHeartbeats 4000000 in
set_option maxRecDepth 20000 in
theorem wX11_world_0 (C : ea_C p s m args meth cd cX11_world 10 (some .int) RX11) (hY : ea_Y ids) : ∀ (x1 : Int32) (x2 : Int32) (x3 : Int32) (M : eM) (H : Heap) (locs : List Loc) (ls : Array Slot), fX11_world_0 x1 x2 x3 M = some res → ea_w E ids M s H locs → lv_has ls 10 [(0, .ref (E.1 100)), (1, .int x1), (2, .int x2), (3, .int x3)] → W p l e (ea_rm 4 91) s m args below meth cd H locs 0 0 (MQ below (ea_Qi E ids res) args s 0 0 (ea_Ad E ids)) (F0 m 0 ls []) := by
  intro x1 x2 x3 M H locs ls hf  hw hl
  replace hf := (fX11_world_0.eq_1 ..).symm.trans hf
  refine lv_aload_n C.1 C.2.1 dX11_world_0 rfl (lv_at hl 0 rfl) ?_
  refine lv_iload_n C.1 C.2.1 dX11_world_1 rfl (lv_at hl 1 rfl) ?_
  obtain ⟨r2, M3, he1, hf⟩ := ea_ci_s hf
  refine ea_runi2 hw (cl_X11_261 C hw (hY 100 11 rfl) (As := [.int x1]) (rest := []) (mX11_isTelling (l := l) (E := E) (ids := ids) hY he1) (by decide) rfl hl.1 rfl (Nat.le_of_ble_eq_true rfl) dX11_world_2 ⟨Nat.le_refl _, Nat.le_refl _⟩) (fun H locs hw => ?_)
  refine lv_if_eq (tgt := 20) C.1 C.2.1 dX11_world_5 (by decide) (fun hc4 => ?_) (fun hc4 => ?_)
  · replace hf := ea_if_t hc4 hf
    refine lv_bipush (v := (-2 : Int32)) C.1 C.2.1 dX11_world_20 (by decide) ?_
    exact ea_iret C hw hf dX11_world_22
  · replace hf := ea_if_f hc4 hf
    refine lv_iload_n C.1 C.2.1 dX11_world_8 rfl (lv_at hl 2 rfl) ?_
    refine lv_if_lt (tgt := 20) C.1 C.2.1 dX11_world_9 (by decide) (fun hc5 => ?_) (fun hc5 => ?_)
    · replace hf := ea_if_t hc5 hf
      refine lv_bipush (v := (-2 : Int32)) C.1 C.2.1 dX11_world_20 (by decide) ?_
      exact ea_iret C hw hf dX11_world_22
    · replace hf := ea_if_f hc5 hf
      refine lv_aload_n C.1 C.2.1 dX11_world_12 rfl (lv_at hl 0 rfl) ?_
      refine lv_iload_n C.1 C.2.1 dX11_world_13 rfl (lv_at hl 3 rfl) ?_
      obtain ⟨r7, M8, he6, hf⟩ := ea_ci_s hf
      refine ea_runi2 hw (cl_X11_225 C hw (hY 100 11 rfl) (As := [.int x3]) (rest := []) (mX11_isStory (l := l) (E := E) (ids := ids) hY he6) (by decide) rfl hl.1 rfl (Nat.le_of_ble_eq_true rfl) dX11_world_14 ⟨Nat.le_refl _, Nat.le_refl _⟩) (fun H locs hw => ?_)
      refine lv_if_ne (tgt := 23) C.1 C.2.1 dX11_world_17 (by decide) (fun hc9 => ?_) (fun hc9 => ?_)
      · replace hf := ea_if_f hc9 hf
        refine lv_aload_n C.1 C.2.1 dX11_world_23 rfl (lv_at hl 0 rfl) ?_
        refine lv_iload_n C.1 C.2.1 dX11_world_24 rfl (lv_at hl 2 rfl) ?_
        refine lv_i2l C.1 C.2.1 dX11_world_25 rfl ?_
        refine pu_X11_361 C hw (hY 100 11 rfl) dX11_world_26 (fun H locs hw => ?_)
        refine lv_aload_n C.1 C.2.1 dX11_world_29 rfl (lv_at hl 0 rfl) ?_
        refine gf_X11_55 C hw (hY 100 11 rfl) dX11_world_30 ?_
        refine W.eq (g2 := F0 m 33 ls [.ref (E.1 114)]) rfl ?_
        refine lv_iconst (v := 3) C.1 C.2.1 dX11_world_33 (by decide) ?_
        refine lv_iload_n C.1 C.2.1 dX11_world_34 rfl (lv_at hl 1 rfl) ?_
        refine ea_iast C hw (show ea_ok ids 114 20 from ok_11_27 (hY 100 11 rfl)) (by decide) dX11_world_35 (fun H locs hw => ?_)
        refine lv_iconst (v := 0) C.1 C.2.1 dX11_world_36 (by decide) ?_
        refine lv_istore (lv' := [(4, .int (0 : Int32)), (0, .ref (E.1 100)), (1, .int x1), (2, .int x2), (3, .int x3)]) C.1 C.2.1 dX11_world_37 hl (by decide) rfl (fun ls hl => ?_)
        refine lv_iconst (v := 0) C.1 C.2.1 dX11_world_39 (by decide) ?_
        refine lv_istore (lv' := [(5, .int (0 : Int32)), (4, .int (0 : Int32)), (0, .ref (E.1 100)), (1, .int x1), (2, .int x2), (3, .int x3)]) C.1 C.2.1 dX11_world_40 hl (by decide) rfl (fun ls hl => ?_)
        exact wX11_world_42 C hY ea_N _ _ _ _ _ _ _ _ hf hw (lv_sub hl [2, 3, 5, 1, 0] rfl)
      · replace hf := ea_if_t hc9 hf
        refine lv_bipush (v := (-2 : Int32)) C.1 C.2.1 dX11_world_20 (by decide) ?_
        exact ea_iret C hw hf dX11_world_22
set_option maxHeartbeats 4000000 in
set_option maxRecDepth 20000 in
theorem mX11_world {l : Launch} {E : eE} {ids : List Nat} (hY : ea_Y ids) {x1 : Int32} {x2 : Int32} {x3 : Int32} {M : eM} {res : Int32 × eM} (hf : fX11_world x1 x2 x3 M = some res) : ea_Mi l yX11_world cX11_world 10 (some .int) 4 91 E ids [.ref (E.1 100), .int x1, .int x2, .int x3] M res := by
  refine ea_goi (by decide) (Nat.le_of_ble_eq_true rfl) wc_X11_world ?_
  intro p e s m below meth cd ls C hw hl
  exact wX11_world_0 C hY _ _ _ _ _ _ _ hf hw hl
end SX11_world
