def fX11_colourOf_53 (t0 : Int32) (t1 : Int32) (M : eM) : Option (Int32 × eM) := if 0 ≤ (t1 - t0) then (some (t1 - t0, M)) else (some ((0 : Int32), M))
def fX11_colourOf_0 (x1 : Int32) (x2 : Int32) (x3 : Int32) (M : eM) : Option (Int32 × eM) := ea_ck (ea_ix x1 (ea_len 110)) (ea_ck (ea_ix x1 (ea_len 111)) (ea_ci (fX11_partOf (M.1 110 x1.toNatClampNeg) (M.1 111 x1.toNatClampNeg) x2 x3 M) (fun r4 M5 => ea_ck (ea_ix x1 (ea_len 112)) (if (M5.1 112 x1.toNatClampNeg) = (-1 : Int32) then (fX11_colourOf_53 (0 : Int32) ((99 : Int32) - r4) M5) else (ea_ck (ea_ix x1 (ea_len 112)) (ea_ck (ea_ix x1 (ea_len 113)) (ea_ci (fX11_partOf (M5.1 112 x1.toNatClampNeg) (M5.1 113 x1.toNatClampNeg) x2 x3 M5) (fun r11 M12 => fX11_colourOf_53 r11 ((99 : Int32) - r4) M12))))))))
def fX11_colourOf (x1 : Int32) (x2 : Int32) (x3 : Int32) (M : eM) : Option (Int32 × eM) := fX11_colourOf_0 x1 x2 x3 M
section SX11_colourOf
variable {p : Program} {l : Launch} {e : Env} {s : State} {m : MethodId} {args : Array Value} {below : List Frame} {meth : Method} {cd : Code} {E : eE} {ids : List Nat} {res : Int32 × eM}
set_option maxHeartbeats 4000000 in
set_option maxRecDepth 20000 in
theorem wX11_colourOf_53 (C : ea_C p s m args meth cd cX11_colourOf 5 (some .int) RX11) (hY : ea_Y ids) : ∀ (t0 : Int32) (t1 : Int32) (M : eM) (H : Heap) (locs : List Loc) (ls : Array Slot), fX11_colourOf_53 t0 t1 M = some res → ea_w E ids M s H locs → lv_has ls 5 [] → W p l e (ea_rm 3 67) s m args below meth cd H locs 0 0 (MQ below (ea_Qi E ids res) args s 0 0 (ea_Ad E ids)) (F0 m 53 ls [.int t0, .int t1]) := by
  intro t0 t1 M H locs ls hf  hw hl
  replace hf := (fX11_colourOf_53.eq_1 ..).symm.trans hf
  refine lv_isub C.1 C.2.1 dX11_colourOf_53 ?_
  refine lv_istore (lv' := [(4, .int (t1 - t0))]) C.1 C.2.1 dX11_colourOf_54 hl (by decide) rfl (fun ls hl => ?_)
  refine lv_iload C.1 C.2.1 dX11_colourOf_56 (lv_at hl 0 rfl) ?_
  refine lv_if_ge (tgt := 65) C.1 C.2.1 dX11_colourOf_58 (by decide) (fun hc1 => ?_) (fun hc1 => ?_)
  · replace hf := ea_if_t hc1 hf
    refine lv_iload C.1 C.2.1 dX11_colourOf_65 (lv_at hl 0 rfl) ?_
    exact ea_iret C hw hf dX11_colourOf_67
  · replace hf := ea_if_f hc1 hf
    refine lv_iconst (v := 0) C.1 C.2.1 dX11_colourOf_61 (by decide) ?_
    refine lv_goto (tgt := 67) C.1 C.2.1 dX11_colourOf_62 (by decide) ?_
    exact ea_iret C hw hf dX11_colourOf_67
set_option maxHeartbeats 4000000 in
set_option maxRecDepth 20000 in
theorem wX11_colourOf_0 (C : ea_C p s m args meth cd cX11_colourOf 5 (some .int) RX11) (hY : ea_Y ids) : ∀ (x1 : Int32) (x2 : Int32) (x3 : Int32) (M : eM) (H : Heap) (locs : List Loc) (ls : Array Slot), fX11_colourOf_0 x1 x2 x3 M = some res → ea_w E ids M s H locs → lv_has ls 5 [(0, .ref (E.1 100)), (1, .int x1), (2, .int x2), (3, .int x3)] → W p l e (ea_rm 3 67) s m args below meth cd H locs 0 0 (MQ below (ea_Qi E ids res) args s 0 0 (ea_Ad E ids)) (F0 m 0 ls []) := by
  intro x1 x2 x3 M H locs ls hf  hw hl
  replace hf := (fX11_colourOf_0.eq_1 ..).symm.trans hf
  refine lv_bipush (v := 99) C.1 C.2.1 dX11_colourOf_0 (by decide) ?_
  refine lv_aload_n C.1 C.2.1 dX11_colourOf_2 rfl (lv_at hl 0 rfl) ?_
  refine lv_aload_n C.1 C.2.1 dX11_colourOf_3 rfl (lv_at hl 0 rfl) ?_
  refine gf_X11_43 C hw (hY 100 11 rfl) dX11_colourOf_4 ?_
  refine W.eq (g2 := F0 m 7 ls [.ref (E.1 110), .ref (E.1 100), .int (99 : Int32)]) rfl ?_
  refine lv_iload_n C.1 C.2.1 dX11_colourOf_7 rfl (lv_at hl 1 rfl) ?_
  obtain ⟨hc1, hf⟩ := ea_ck_s hf
  refine ea_iald C hw (show ea_ok ids 110 20 from ok_11_23 (hY 100 11 rfl)) hc1 dX11_colourOf_8 ?_
  refine lv_aload_n C.1 C.2.1 dX11_colourOf_9 rfl (lv_at hl 0 rfl) ?_
  refine gf_X11_46 C hw (hY 100 11 rfl) dX11_colourOf_10 ?_
  refine W.eq (g2 := F0 m 13 ls [.ref (E.1 111), .int (M.1 110 x1.toNatClampNeg), .ref (E.1 100), .int (99 : Int32)]) rfl ?_
  refine lv_iload_n C.1 C.2.1 dX11_colourOf_13 rfl (lv_at hl 1 rfl) ?_
  obtain ⟨hc2, hf⟩ := ea_ck_s hf
  refine ea_iald C hw (show ea_ok ids 111 20 from ok_11_24 (hY 100 11 rfl)) hc2 dX11_colourOf_14 ?_
  refine lv_iload_n C.1 C.2.1 dX11_colourOf_15 rfl (lv_at hl 2 rfl) ?_
  refine lv_iload_n C.1 C.2.1 dX11_colourOf_16 rfl (lv_at hl 3 rfl) ?_
  obtain ⟨r4, M5, he3, hf⟩ := ea_ci_s hf
  refine ea_runi2 hw (cl_X11_248 C hw (hY 100 11 rfl) (As := [.int (M.1 110 x1.toNatClampNeg), .int (M.1 111 x1.toNatClampNeg), .int x2, .int x3]) (rest := [.int (99 : Int32)]) (mX11_partOf (l := l) (E := E) (ids := ids) hY he3) (by decide) rfl hl.1 rfl (Nat.le_of_ble_eq_true rfl) dX11_colourOf_17 ⟨Nat.le_refl _, Nat.le_refl _⟩) (fun H locs hw => ?_)
  refine lv_isub C.1 C.2.1 dX11_colourOf_20 ?_
  refine lv_aload_n C.1 C.2.1 dX11_colourOf_21 rfl (lv_at hl 0 rfl) ?_
  refine gf_X11_49 C hw (hY 100 11 rfl) dX11_colourOf_22 ?_
  refine W.eq (g2 := F0 m 25 ls [.ref (E.1 112), .int ((99 : Int32) - r4)]) rfl ?_
  refine lv_iload_n C.1 C.2.1 dX11_colourOf_25 rfl (lv_at hl 1 rfl) ?_
  obtain ⟨hc6, hf⟩ := ea_ck_s hf
  refine ea_iald C hw (show ea_ok ids 112 20 from ok_11_25 (hY 100 11 rfl)) hc6 dX11_colourOf_26 ?_
  refine lv_iconst (v := (-1 : Int32)) C.1 C.2.1 dX11_colourOf_27 (by decide) ?_
  refine lv_icmp_ne (tgt := 35) C.1 C.2.1 dX11_colourOf_28 (by decide) (fun hc7 => ?_) (fun hc7 => ?_)
  · replace hf := ea_if_f hc7 hf
    refine lv_aload_n C.1 C.2.1 dX11_colourOf_35 rfl (lv_at hl 0 rfl) ?_
    refine lv_aload_n C.1 C.2.1 dX11_colourOf_36 rfl (lv_at hl 0 rfl) ?_
    refine gf_X11_49 C hw (hY 100 11 rfl) dX11_colourOf_37 ?_
    refine W.eq (g2 := F0 m 40 ls [.ref (E.1 112), .ref (E.1 100), .int ((99 : Int32) - r4)]) rfl ?_
    refine lv_iload_n C.1 C.2.1 dX11_colourOf_40 rfl (lv_at hl 1 rfl) ?_
    obtain ⟨hc8, hf⟩ := ea_ck_s hf
    refine ea_iald C hw (show ea_ok ids 112 20 from ok_11_25 (hY 100 11 rfl)) hc8 dX11_colourOf_41 ?_
    refine lv_aload_n C.1 C.2.1 dX11_colourOf_42 rfl (lv_at hl 0 rfl) ?_
    refine gf_X11_52 C hw (hY 100 11 rfl) dX11_colourOf_43 ?_
    refine W.eq (g2 := F0 m 46 ls [.ref (E.1 113), .int (M5.1 112 x1.toNatClampNeg), .ref (E.1 100), .int ((99 : Int32) - r4)]) rfl ?_
    refine lv_iload_n C.1 C.2.1 dX11_colourOf_46 rfl (lv_at hl 1 rfl) ?_
    obtain ⟨hc9, hf⟩ := ea_ck_s hf
    refine ea_iald C hw (show ea_ok ids 113 20 from ok_11_26 (hY 100 11 rfl)) hc9 dX11_colourOf_47 ?_
    refine lv_iload_n C.1 C.2.1 dX11_colourOf_48 rfl (lv_at hl 2 rfl) ?_
    refine lv_iload_n C.1 C.2.1 dX11_colourOf_49 rfl (lv_at hl 3 rfl) ?_
    obtain ⟨r11, M12, he10, hf⟩ := ea_ci_s hf
    refine ea_runi2 hw (cl_X11_248 C hw (hY 100 11 rfl) (As := [.int (M5.1 112 x1.toNatClampNeg), .int (M5.1 113 x1.toNatClampNeg), .int x2, .int x3]) (rest := [.int ((99 : Int32) - r4)]) (mX11_partOf (l := l) (E := E) (ids := ids) hY he10) (by decide) rfl hl.1 rfl (Nat.le_of_ble_eq_true rfl) dX11_colourOf_50 ⟨Nat.le_refl _, Nat.le_refl _⟩) (fun H locs hw => ?_)
    exact wX11_colourOf_53 C hY _ _ _ _ _ _ hf hw (lv_sub hl [] rfl)
  · replace hf := ea_if_t hc7 hf
    refine lv_iconst (v := 0) C.1 C.2.1 dX11_colourOf_31 (by decide) ?_
    refine lv_goto (tgt := 53) C.1 C.2.1 dX11_colourOf_32 (by decide) ?_
    exact wX11_colourOf_53 C hY _ _ _ _ _ _ hf hw (lv_sub hl [] rfl)
set_option maxHeartbeats 4000000 in
set_option maxRecDepth 20000 in
theorem mX11_colourOf {l : Launch} {E : eE} {ids : List Nat} (hY : ea_Y ids) {x1 : Int32} {x2 : Int32} {x3 : Int32} {M : eM} {res : Int32 × eM} (hf : fX11_colourOf x1 x2 x3 M = some res) : ea_Mi l yX11_colourOf cX11_colourOf 5 (some .int) 3 67 E ids [.ref (E.1 100), .int x1, .int x2, .int x3] M res := by
  refine ea_goi (by decide) (Nat.le_of_ble_eq_true rfl) wc_X11_colourOf ?_
  intro p e s m below meth cd ls C hw hl
  exact wX11_colourOf_0 C hY _ _ _ _ _ _ _ hf hw hl
end SX11_colourOf

def fX11_bears_3 : Nat → Int32 → Int32 → Int32 → Int32 → Int32 → eM → Option (Int32 × eM)
  | 0, _, _, _, _, _, _ => none
  | n + 1, x1, x2, x3, x4, x5, M => if (3 : Int32) ≤ x5 then (some ((1 : Int32), M)) else (ea_ci (fX11_colourOf x1 (x2 + x3) x5 M) (fun r3 M4 => ea_ci (fX11_colourOf x1 x2 x5 M4) (fun r6 M7 => if (r3 - r6) ≤ x4 then (fX11_bears_3 n x1 x2 x3 x4 (x5 + (1 : Int32)) M7) else (some ((0 : Int32), M7)))))
def fX11_bears_0 (x1 : Int32) (x2 : Int32) (x3 : Int32) (x4 : Int32) (M : eM) : Option (Int32 × eM) := fX11_bears_3 ea_N x1 x2 x3 x4 (0 : Int32) M
def fX11_bears (x1 : Int32) (x2 : Int32) (x3 : Int32) (x4 : Int32) (M : eM) : Option (Int32 × eM) := fX11_bears_0 x1 x2 x3 x4 M
section SX11_bears
variable {p : Program} {l : Launch} {e : Env} {s : State} {m : MethodId} {args : Array Value} {below : List Frame} {meth : Method} {cd : Code} {E : eE} {ids : List Nat} {res : Int32 × eM}
set_option maxHeartbeats 4000000 in
set_option maxRecDepth 20000 in
theorem wX11_bears_3 (C : ea_C p s m args meth cd cX11_bears 6 (some .boolean) RX11) (hY : ea_Y ids) : ∀ (n : Nat) (x1 : Int32) (x2 : Int32) (x3 : Int32) (x4 : Int32) (x5 : Int32) (M : eM) (H : Heap) (locs : List Loc) (ls : Array Slot), fX11_bears_3 n x1 x2 x3 x4 x5 M = some res → ea_w E ids M s H locs → lv_has ls 6 [(0, .ref (E.1 100)), (1, .int x1), (2, .int x2), (3, .int x3), (4, .int x4), (5, .int x5)] → W p l e (ea_rm 4 91) s m args below meth cd H locs 0 0 (MQ below (ea_Qi E ids res) args s 0 0 (ea_Ad E ids)) (F0 m 3 ls []) := by
  intro n
  induction n with
  | zero => intro x1 x2 x3 x4 x5 M H locs ls hf; cases hf
  | succ n ih =>
    intro x1 x2 x3 x4 x5 M H locs ls hf  hw hl
    replace hf := (fX11_bears_3.eq_2 ..).symm.trans hf
    refine lv_iload C.1 C.2.1 dX11_bears_3 (lv_at hl 5 rfl) ?_
    refine lv_iconst (v := 3) C.1 C.2.1 dX11_bears_5 (by decide) ?_
    refine lv_icmp_ge (tgt := 41) C.1 C.2.1 dX11_bears_6 (by decide) (fun hc1 => ?_) (fun hc1 => ?_)
    · replace hf := ea_if_t hc1 hf
      refine lv_iconst (v := 1) C.1 C.2.1 dX11_bears_41 (by decide) ?_
      exact ea_zret C hw (by decide) hf dX11_bears_42
    · replace hf := ea_if_f hc1 hf
      refine lv_aload_n C.1 C.2.1 dX11_bears_9 rfl (lv_at hl 0 rfl) ?_
      refine lv_iload_n C.1 C.2.1 dX11_bears_10 rfl (lv_at hl 1 rfl) ?_
      refine lv_iload_n C.1 C.2.1 dX11_bears_11 rfl (lv_at hl 2 rfl) ?_
      refine lv_iload_n C.1 C.2.1 dX11_bears_12 rfl (lv_at hl 3 rfl) ?_
      refine lv_iadd C.1 C.2.1 dX11_bears_13 ?_
      refine lv_iload C.1 C.2.1 dX11_bears_14 (lv_at hl 5 rfl) ?_
      obtain ⟨r3, M4, he2, hf⟩ := ea_ci_s hf
      refine ea_runi2 hw (cl_X11_257 C hw (hY 100 11 rfl) (As := [.int x1, .int (x2 + x3), .int x5]) (rest := []) (mX11_colourOf (l := l) (E := E) (ids := ids) hY he2) (by decide) rfl hl.1 rfl (Nat.le_of_ble_eq_true rfl) dX11_bears_16 ⟨Nat.le_refl _, Nat.le_refl _⟩) (fun H locs hw => ?_)
      refine lv_aload_n C.1 C.2.1 dX11_bears_19 rfl (lv_at hl 0 rfl) ?_
      refine lv_iload_n C.1 C.2.1 dX11_bears_20 rfl (lv_at hl 1 rfl) ?_
      refine lv_iload_n C.1 C.2.1 dX11_bears_21 rfl (lv_at hl 2 rfl) ?_
      refine lv_iload C.1 C.2.1 dX11_bears_22 (lv_at hl 5 rfl) ?_
      obtain ⟨r6, M7, he5, hf⟩ := ea_ci_s hf
      refine ea_runi2 hw (cl_X11_257 C hw (hY 100 11 rfl) (As := [.int x1, .int x2, .int x5]) (rest := [.int r3]) (mX11_colourOf (l := l) (E := E) (ids := ids) hY he5) (by decide) rfl hl.1 rfl (Nat.le_of_ble_eq_true rfl) dX11_bears_24 ⟨Nat.le_refl _, Nat.le_refl _⟩) (fun H locs hw => ?_)
      refine lv_isub C.1 C.2.1 dX11_bears_27 ?_
      refine lv_iload C.1 C.2.1 dX11_bears_28 (lv_at hl 4 rfl) ?_
      refine lv_icmp_le (tgt := 35) C.1 C.2.1 dX11_bears_30 (by decide) (fun hc8 => ?_) (fun hc8 => ?_)
      · replace hf := ea_if_t hc8 hf
        refine lv_iinc (v := x5 + (1 : Int32)) (lv' := [(5, .int (x5 + (1 : Int32))), (0, .ref (E.1 100)), (1, .int x1), (2, .int x2), (3, .int x3), (4, .int x4)]) C.1 C.2.1 dX11_bears_35 hl (k := 5) rfl rfl (by decide) rfl (fun ls hl => ?_)
        refine lv_goto (tgt := 3) C.1 C.2.1 dX11_bears_38 (by decide) ?_
        exact ih _ _ _ _ _ _ _ _ _ hf hw (lv_sub hl [1, 2, 3, 4, 5, 0] rfl)
      · replace hf := ea_if_f hc8 hf
        refine lv_iconst (v := 0) C.1 C.2.1 dX11_bears_33 (by decide) ?_
        exact ea_zret C hw (by decide) hf dX11_bears_34
set_option maxHeartbeats 4000000 in
set_option maxRecDepth 20000 in
theorem wX11_bears_0 (C : ea_C p s m args meth cd cX11_bears 6 (some .boolean) RX11) (hY : ea_Y ids) : ∀ (x1 : Int32) (x2 : Int32) (x3 : Int32) (x4 : Int32) (M : eM) (H : Heap) (locs : List Loc) (ls : Array Slot), fX11_bears_0 x1 x2 x3 x4 M = some res → ea_w E ids M s H locs → lv_has ls 6 [(0, .ref (E.1 100)), (1, .int x1), (2, .int x2), (3, .int x3), (4, .int x4)] → W p l e (ea_rm 4 91) s m args below meth cd H locs 0 0 (MQ below (ea_Qi E ids res) args s 0 0 (ea_Ad E ids)) (F0 m 0 ls []) := by
  intro x1 x2 x3 x4 M H locs ls hf  hw hl
  replace hf := (fX11_bears_0.eq_1 ..).symm.trans hf
  refine lv_iconst (v := 0) C.1 C.2.1 dX11_bears_0 (by decide) ?_
  refine lv_istore (lv' := [(5, .int (0 : Int32)), (0, .ref (E.1 100)), (1, .int x1), (2, .int x2), (3, .int x3), (4, .int x4)]) C.1 C.2.1 dX11_bears_1 hl (by decide) rfl (fun ls hl => ?_)
  exact wX11_bears_3 C hY ea_N _ _ _ _ _ _ _ _ _ hf hw (lv_sub hl [1, 2, 3, 4, 5, 0] rfl)
set_option maxHeartbeats 4000000 in
set_option maxRecDepth 20000 in
theorem mX11_bears {l : Launch} {E : eE} {ids : List Nat} (hY : ea_Y ids) {x1 : Int32} {x2 : Int32} {x3 : Int32} {x4 : Int32} {M : eM} {res : Int32 × eM} (hf : fX11_bears x1 x2 x3 x4 M = some res) : ea_Mi l yX11_bears cX11_bears 6 (some .boolean) 4 91 E ids [.ref (E.1 100), .int x1, .int x2, .int x3, .int x4] M res := by
  refine ea_goi (by decide) (Nat.le_of_ble_eq_true rfl) wc_X11_bears ?_
  intro p e s m below meth cd ls C hw hl
  exact wX11_bears_0 C hY _ _ _ _ _ _ _ _ hf hw hl
end SX11_bears

def fX11_lookAt_67 (k6 : Int32 → Int32 → Int32 → Int32 → Int32 → eM → Option (Int32 × eM)) (x1 : Int32) (x2 : Int32) (x3 : Int32) (x4 : Int32) (x5 : Int32) (M : eM) : Option (Int32 × eM) := k6 x1 x2 x3 x4 (x5 + (1 : Int32)) M
def fX11_lookAt_6 : Nat → Int32 → Int32 → Int32 → Int32 → Int32 → eM → Option (Int32 × eM)
  | 0, _, _, _, _, _, _ => none
  | n + 1, x1, x2, x3, x4, x5, M => if (M.1 114 (0 : Int32).toNatClampNeg) ≤ x5 then (some (x4, M)) else (ea_lt ((4 : Int32) + ((7 : Int32) * x5)) (fun y2 => ea_ck (ea_ix y2 (ea_len 114)) (if x3 < (M.1 114 y2.toNatClampNeg) then (fX11_lookAt_67 (fX11_lookAt_6 n) x1 x2 x3 x4 x5 M) else (ea_ck (ea_ix (y2 + (1 : Int32)) (ea_len 114)) (if (M.1 114 (y2 + (1 : Int32)).toNatClampNeg) = x1 then (ea_ck (ea_ix (y2 + (2 : Int32)) (ea_len 114)) (if (M.1 114 (y2 + (2 : Int32)).toNatClampNeg) = x2 then (fX11_lookAt_67 (fX11_lookAt_6 n) x1 x2 x3 y2 x5 M) else (fX11_lookAt_67 (fX11_lookAt_6 n) x1 x2 x3 x4 x5 M))) else (fX11_lookAt_67 (fX11_lookAt_6 n) x1 x2 x3 x4 x5 M))))))
def fX11_lookAt_0 (x1 : Int32) (x2 : Int32) (x3 : Int32) (M : eM) : Option (Int32 × eM) := fX11_lookAt_6 ea_N x1 x2 x3 (-1 : Int32) (0 : Int32) M
def fX11_lookAt (x1 : Int32) (x2 : Int32) (x3 : Int32) (M : eM) : Option (Int32 × eM) := fX11_lookAt_0 x1 x2 x3 M
section SX11_lookAt
variable {p : Program} {l : Launch} {e : Env} {s : State} {m : MethodId} {args : Array Value} {below : List Frame} {meth : Method} {cd : Code} {E : eE} {ids : List Nat} {res : Int32 × eM}
set_option maxHeartbeats 4000000 in
set_option maxRecDepth 20000 in
theorem wX11_lookAt_67 (C : ea_C p s m args meth cd cX11_lookAt 7 (some .int) RX11) (hY : ea_Y ids) {k6 : Int32 → Int32 → Int32 → Int32 → Int32 → eM → Option (Int32 × eM)} (hk6 : ∀ (x1 : Int32) (x2 : Int32) (x3 : Int32) (x4 : Int32) (x5 : Int32) (M : eM) (H : Heap) (locs : List Loc) (ls : Array Slot), k6 x1 x2 x3 x4 x5 M = some res → ea_w E ids M s H locs → lv_has ls 7 [(0, .ref (E.1 100)), (1, .int x1), (2, .int x2), (3, .int x3), (4, .int x4), (5, .int x5)] → W p l e (ea_rm 0 0) s m args below meth cd H locs 0 0 (MQ below (ea_Qi E ids res) args s 0 0 (ea_Ad E ids)) (F0 m 6 ls [])) : ∀ (x1 : Int32) (x2 : Int32) (x3 : Int32) (x4 : Int32) (x5 : Int32) (M : eM) (H : Heap) (locs : List Loc) (ls : Array Slot), fX11_lookAt_67 k6 x1 x2 x3 x4 x5 M = some res → ea_w E ids M s H locs → lv_has ls 7 [(0, .ref (E.1 100)), (1, .int x1), (2, .int x2), (3, .int x3), (4, .int x4), (5, .int x5)] → W p l e (ea_rm 0 0) s m args below meth cd H locs 0 0 (MQ below (ea_Qi E ids res) args s 0 0 (ea_Ad E ids)) (F0 m 67 ls []) := by
  intro x1 x2 x3 x4 x5 M H locs ls hf  hw hl
  replace hf := (fX11_lookAt_67.eq_1 ..).symm.trans hf
  refine lv_iinc (v := x5 + (1 : Int32)) (lv' := [(5, .int (x5 + (1 : Int32))), (0, .ref (E.1 100)), (1, .int x1), (2, .int x2), (3, .int x3), (4, .int x4)]) C.1 C.2.1 dX11_lookAt_67 hl (k := 5) rfl rfl (by decide) rfl (fun ls hl => ?_)
  refine lv_goto (tgt := 6) C.1 C.2.1 dX11_lookAt_70 (by decide) ?_
  exact hk6 _ _ _ _ _ _ _ _ _ hf hw (lv_sub hl [1, 2, 3, 4, 5, 0] rfl)
set_option maxHeartbeats 4000000 in
set_option maxRecDepth 20000 in
theorem wX11_lookAt_6 (C : ea_C p s m args meth cd cX11_lookAt 7 (some .int) RX11) (hY : ea_Y ids) : ∀ (n : Nat) (x1 : Int32) (x2 : Int32) (x3 : Int32) (x4 : Int32) (x5 : Int32) (M : eM) (H : Heap) (locs : List Loc) (ls : Array Slot), fX11_lookAt_6 n x1 x2 x3 x4 x5 M = some res → ea_w E ids M s H locs → lv_has ls 7 [(0, .ref (E.1 100)), (1, .int x1), (2, .int x2), (3, .int x3), (4, .int x4), (5, .int x5)] → W p l e (ea_rm 0 0) s m args below meth cd H locs 0 0 (MQ below (ea_Qi E ids res) args s 0 0 (ea_Ad E ids)) (F0 m 6 ls []) := by
  intro n
  induction n with
  | zero => intro x1 x2 x3 x4 x5 M H locs ls hf; cases hf
  | succ n ih =>
    intro x1 x2 x3 x4 x5 M H locs ls hf  hw hl
    replace hf := (fX11_lookAt_6.eq_2 ..).symm.trans hf
    refine lv_iload C.1 C.2.1 dX11_lookAt_6 (lv_at hl 5 rfl) ?_
    refine lv_aload_n C.1 C.2.1 dX11_lookAt_8 rfl (lv_at hl 0 rfl) ?_
    refine gf_X11_55 C hw (hY 100 11 rfl) dX11_lookAt_9 ?_
    refine W.eq (g2 := F0 m 12 ls [.ref (E.1 114), .int x5]) rfl ?_
    refine lv_iconst (v := 0) C.1 C.2.1 dX11_lookAt_12 (by decide) ?_
    refine ea_iald C hw (show ea_ok ids 114 20 from ok_11_27 (hY 100 11 rfl)) (by decide) dX11_lookAt_13 ?_
    refine lv_icmp_ge (tgt := 73) C.1 C.2.1 dX11_lookAt_14 (by decide) (fun hc1 => ?_) (fun hc1 => ?_)
    · replace hf := ea_if_t hc1 hf
      refine lv_iload C.1 C.2.1 dX11_lookAt_73 (lv_at hl 4 rfl) ?_
      exact ea_iret C hw hf dX11_lookAt_75
    · replace hf := ea_if_f hc1 hf
      refine lv_iconst (v := 4) C.1 C.2.1 dX11_lookAt_17 (by decide) ?_
      refine lv_bipush (v := 7) C.1 C.2.1 dX11_lookAt_18 (by decide) ?_
      refine lv_iload C.1 C.2.1 dX11_lookAt_20 (lv_at hl 5 rfl) ?_
      refine lv_imul C.1 C.2.1 dX11_lookAt_22 ?_
      refine lv_iadd C.1 C.2.1 dX11_lookAt_23 ?_
      obtain ⟨y2, ey3, hf⟩ := ea_lt_s hf
      refine ea_topi ey3 ?_
      refine lv_istore (lv' := [(6, .int y2), (0, .ref (E.1 100)), (1, .int x1), (2, .int x2), (3, .int x3), (4, .int x4), (5, .int x5)]) C.1 C.2.1 dX11_lookAt_24 hl (by decide) rfl (fun ls hl => ?_)
      refine lv_aload_n C.1 C.2.1 dX11_lookAt_26 rfl (lv_at hl 1 rfl) ?_
      refine gf_X11_55 C hw (hY 100 11 rfl) dX11_lookAt_27 ?_
      refine W.eq (g2 := F0 m 30 ls [.ref (E.1 114)]) rfl ?_
      refine lv_iload C.1 C.2.1 dX11_lookAt_30 (lv_at hl 0 rfl) ?_
      obtain ⟨hc4, hf⟩ := ea_ck_s hf
      refine ea_iald C hw (show ea_ok ids 114 20 from ok_11_27 (hY 100 11 rfl)) hc4 dX11_lookAt_32 ?_
      refine lv_iload_n C.1 C.2.1 dX11_lookAt_33 rfl (lv_at hl 4 rfl) ?_
      refine lv_icmp_gt (tgt := 67) C.1 C.2.1 dX11_lookAt_34 (by decide) (fun hc5 => ?_) (fun hc5 => ?_)
      · replace hf := ea_if_t hc5 hf
        exact wX11_lookAt_67 C hY ih _ _ _ _ _ _ _ _ _ hf hw (lv_sub hl [1, 2, 3, 4, 5, 6] rfl)
      · replace hf := ea_if_f hc5 hf
        refine lv_aload_n C.1 C.2.1 dX11_lookAt_37 rfl (lv_at hl 1 rfl) ?_
        refine gf_X11_55 C hw (hY 100 11 rfl) dX11_lookAt_38 ?_
        refine W.eq (g2 := F0 m 41 ls [.ref (E.1 114)]) rfl ?_
        refine lv_iload C.1 C.2.1 dX11_lookAt_41 (lv_at hl 0 rfl) ?_
        refine lv_iconst (v := 1) C.1 C.2.1 dX11_lookAt_43 (by decide) ?_
        refine lv_iadd C.1 C.2.1 dX11_lookAt_44 ?_
        obtain ⟨hc6, hf⟩ := ea_ck_s hf
        refine ea_iald C hw (show ea_ok ids 114 20 from ok_11_27 (hY 100 11 rfl)) hc6 dX11_lookAt_45 ?_
        refine lv_iload_n C.1 C.2.1 dX11_lookAt_46 rfl (lv_at hl 2 rfl) ?_
        refine lv_icmp_ne (tgt := 67) C.1 C.2.1 dX11_lookAt_47 (by decide) (fun hc7 => ?_) (fun hc7 => ?_)
        · replace hf := ea_if_f hc7 hf
          exact wX11_lookAt_67 C hY ih _ _ _ _ _ _ _ _ _ hf hw (lv_sub hl [1, 2, 3, 4, 5, 6] rfl)
        · replace hf := ea_if_t hc7 hf
          refine lv_aload_n C.1 C.2.1 dX11_lookAt_50 rfl (lv_at hl 1 rfl) ?_
          refine gf_X11_55 C hw (hY 100 11 rfl) dX11_lookAt_51 ?_
          refine W.eq (g2 := F0 m 54 ls [.ref (E.1 114)]) rfl ?_
          refine lv_iload C.1 C.2.1 dX11_lookAt_54 (lv_at hl 0 rfl) ?_
          refine lv_iconst (v := 2) C.1 C.2.1 dX11_lookAt_56 (by decide) ?_
          refine lv_iadd C.1 C.2.1 dX11_lookAt_57 ?_
          obtain ⟨hc8, hf⟩ := ea_ck_s hf
          refine ea_iald C hw (show ea_ok ids 114 20 from ok_11_27 (hY 100 11 rfl)) hc8 dX11_lookAt_58 ?_
          refine lv_iload_n C.1 C.2.1 dX11_lookAt_59 rfl (lv_at hl 3 rfl) ?_
          refine lv_icmp_ne (tgt := 67) C.1 C.2.1 dX11_lookAt_60 (by decide) (fun hc9 => ?_) (fun hc9 => ?_)
          · replace hf := ea_if_f hc9 hf
            exact wX11_lookAt_67 C hY ih _ _ _ _ _ _ _ _ _ hf hw (lv_sub hl [1, 2, 3, 4, 5, 6] rfl)
          · replace hf := ea_if_t hc9 hf
            refine lv_iload C.1 C.2.1 dX11_lookAt_63 (lv_at hl 0 rfl) ?_
            refine lv_istore (lv' := [(4, .int y2), (6, .int y2), (0, .ref (E.1 100)), (1, .int x1), (2, .int x2), (3, .int x3), (5, .int x5)]) C.1 C.2.1 dX11_lookAt_65 hl (by decide) rfl (fun ls hl => ?_)
            exact wX11_lookAt_67 C hY ih _ _ _ _ _ _ _ _ _ hf hw (lv_sub hl [2, 3, 4, 5, 0, 6] rfl)
set_option maxHeartbeats 4000000 in
set_option maxRecDepth 20000 in
theorem wX11_lookAt_0 (C : ea_C p s m args meth cd cX11_lookAt 7 (some .int) RX11) (hY : ea_Y ids) : ∀ (x1 : Int32) (x2 : Int32) (x3 : Int32) (M : eM) (H : Heap) (locs : List Loc) (ls : Array Slot), fX11_lookAt_0 x1 x2 x3 M = some res → ea_w E ids M s H locs → lv_has ls 7 [(0, .ref (E.1 100)), (1, .int x1), (2, .int x2), (3, .int x3)] → W p l e (ea_rm 0 0) s m args below meth cd H locs 0 0 (MQ below (ea_Qi E ids res) args s 0 0 (ea_Ad E ids)) (F0 m 0 ls []) := by
  intro x1 x2 x3 M H locs ls hf  hw hl
  replace hf := (fX11_lookAt_0.eq_1 ..).symm.trans hf
  refine lv_iconst (v := (-1 : Int32)) C.1 C.2.1 dX11_lookAt_0 (by decide) ?_
  refine lv_istore (lv' := [(4, .int (-1 : Int32)), (0, .ref (E.1 100)), (1, .int x1), (2, .int x2), (3, .int x3)]) C.1 C.2.1 dX11_lookAt_1 hl (by decide) rfl (fun ls hl => ?_)
  refine lv_iconst (v := 0) C.1 C.2.1 dX11_lookAt_3 (by decide) ?_
  refine lv_istore (lv' := [(5, .int (0 : Int32)), (4, .int (-1 : Int32)), (0, .ref (E.1 100)), (1, .int x1), (2, .int x2), (3, .int x3)]) C.1 C.2.1 dX11_lookAt_4 hl (by decide) rfl (fun ls hl => ?_)
  exact wX11_lookAt_6 C hY ea_N _ _ _ _ _ _ _ _ _ hf hw (lv_sub hl [2, 3, 4, 5, 1, 0] rfl)
set_option maxHeartbeats 4000000 in
set_option maxRecDepth 20000 in
theorem mX11_lookAt {l : Launch} {E : eE} {ids : List Nat} (hY : ea_Y ids) {x1 : Int32} {x2 : Int32} {x3 : Int32} {M : eM} {res : Int32 × eM} (hf : fX11_lookAt x1 x2 x3 M = some res) : ea_Mi l yX11_lookAt cX11_lookAt 7 (some .int) 0 0 E ids [.ref (E.1 100), .int x1, .int x2, .int x3] M res := by
  refine ea_goi (by decide) (Nat.le_of_ble_eq_true rfl) wc_X11_lookAt ?_
  intro p e s m below meth cd ls C hw hl
  exact wX11_lookAt_0 C hY _ _ _ _ _ _ _ hf hw hl
end SX11_lookAt

def fX11_findWords_49 (k7 : Int32 → Int32 → Int32 → eM → Option (eM)) (x1 : Int32) (x2 : Int32) (x3 : Int32) (M : eM) : Option (eM) := k7 x1 x2 (x3 + (1 : Int32)) M
def fX11_findWords_7 (k55 : Int32 → Int32 → eM → Option (eM)) : Nat → Int32 → Int32 → Int32 → eM → Option (eM)
  | 0, _, _, _, _ => none
  | n + 1, x1, x2, x3, M => if (2 : Int32) ≤ x3 then (k55 x1 x2 M) else (ea_ci (fX11_lookAt x1 x3 x2 M) (fun r3 M4 => if r3 < 0 then (fX11_findWords_49 (fX11_findWords_7 k55 n) x1 x2 x3 M4) else (ea_ck (ea_ix (r3 + (6 : Int32)) (ea_len 114)) (if (M4.1 114 (r3 + (6 : Int32)).toNatClampNeg) = 0 then (ea_cv (fX11_addWord (0 : Int32) x3 (r3 + (3 : Int32)) M4) (fun M9 => fX11_findWords_49 (fX11_findWords_7 k55 n) x1 x2 x3 M9)) else (fX11_findWords_49 (fX11_findWords_7 k55 n) x1 x2 x3 M4)))))
def fX11_findWords_172 (k113 : Int32 → Int32 → Int32 → Int32 → Int32 → Int32 → eM → Option (eM)) (x1 : Int32) (x2 : Int32) (x3 : Int32) (x4 : Int32) (x5 : Int32) (x6 : Int32) (M : eM) : Option (eM) := k113 x1 x2 x3 x4 x5 (x6 + (1 : Int32)) M
def fX11_findWords_113 (k178 : Int32 → Int32 → Int32 → Int32 → Int32 → eM → Option (eM)) : Nat → Int32 → Int32 → Int32 → Int32 → Int32 → Int32 → eM → Option (eM)
  | 0, _, _, _, _, _, _, _ => none
  | n + 1, x1, x2, x3, x4, x5, x6, M => if (M.1 114 (2 : Int32).toNatClampNeg) ≤ x6 then (k178 x1 x2 x3 x4 x5 M) else (ea_ck (ea_ix (((754 : Int32) + ((5 : Int32) * x6)) + (1 : Int32)) (ea_len 114)) (if (M.1 114 (((754 : Int32) + ((5 : Int32) * x6)) + (1 : Int32)).toNatClampNeg) = x3 then (ea_ck (ea_ix ((754 : Int32) + ((5 : Int32) * x6)) (ea_len 114)) (if x2 < (M.1 114 ((754 : Int32) + ((5 : Int32) * x6)).toNatClampNeg) then (fX11_findWords_172 (fX11_findWords_113 k178 n) x1 x2 x3 x4 x5 x6 M) else (ea_lt (((754 : Int32) + ((5 : Int32) * x6)) + (2 : Int32)) (fun y6 => fX11_findWords_172 (fX11_findWords_113 k178 n) x1 x2 x3 x4 y6 x6 M)))) else (fX11_findWords_172 (fX11_findWords_113 k178 n) x1 x2 x3 x4 x5 x6 M)))
def fX11_findWords_194 (k57 : Int32 → Int32 → Int32 → eM → Option (eM)) (x1 : Int32) (x2 : Int32) (x3 : Int32) (M : eM) : Option (eM) := k57 x1 x2 (x3 + (1 : Int32)) M
def fX11_findWords_178 (k57 : Int32 → Int32 → Int32 → eM → Option (eM)) (x1 : Int32) (x2 : Int32) (x3 : Int32) (x4 : Int32) (x5 : Int32) (M : eM) : Option (eM) := ea_ck (ea_ix (x4 + (2 : Int32)) (ea_len 114)) (ea_cv (fX11_addWord (M.1 114 (x4 + (2 : Int32)).toNatClampNeg) (0 : Int32) x5 M) (fun M3 => fX11_findWords_194 k57 x1 x2 x3 M3))
def fX11_findWords_57 : Nat → Int32 → Int32 → Int32 → eM → Option (eM)
  | 0, _, _, _, _ => none
  | n + 1, x1, x2, x3, M => if (M.1 114 (1 : Int32).toNatClampNeg) ≤ x3 then (some M) else (ea_lt ((634 : Int32) + ((6 : Int32) * x3)) (fun y2 => ea_ck (ea_ix y2 (ea_len 114)) (if x2 < (M.1 114 y2.toNatClampNeg) then (fX11_findWords_194 (fX11_findWords_57 n) x1 x2 x3 M) else (ea_ck (ea_ix (y2 + (1 : Int32)) (ea_len 114)) (if (M.1 114 (y2 + (1 : Int32)).toNatClampNeg) = x1 then (fX11_findWords_113 (fX11_findWords_178 (fX11_findWords_57 n)) ea_N x1 x2 x3 y2 (y2 + (3 : Int32)) (0 : Int32) M) else (fX11_findWords_194 (fX11_findWords_57 n) x1 x2 x3 M))))))
def fX11_findWords_55 (x1 : Int32) (x2 : Int32) (M : eM) : Option (eM) := fX11_findWords_57 ea_N x1 x2 (0 : Int32) M
def fX11_findWords_0 (x1 : Int32) (x2 : Int32) (M : eM) : Option (eM) := fX11_findWords_7 (fX11_findWords_55) ea_N x1 x2 (0 : Int32) (ea_pI M 100 29 (0 : Int32))
def fX11_findWords (x1 : Int32) (x2 : Int32) (M : eM) : Option (eM) := fX11_findWords_0 x1 x2 M
section SX11_findWords
variable {p : Program} {l : Launch} {e : Env} {s : State} {m : MethodId} {args : Array Value} {below : List Frame} {meth : Method} {cd : Code} {E : eE} {ids : List Nat} {res : eM}
set_option maxHeartbeats 4000000 in
set_option maxRecDepth 20000 in
theorem wX11_findWords_49 (C : ea_C p s m args meth cd cX11_findWords 7 none RX11) (hY : ea_Y ids) {k7 : Int32 → Int32 → Int32 → eM → Option (eM)} (hk7 : ∀ (x1 : Int32) (x2 : Int32) (x3 : Int32) (M : eM) (H : Heap) (locs : List Loc) (ls : Array Slot), k7 x1 x2 x3 M = some res → ea_w E ids M s H locs → lv_has ls 7 [(0, .ref (E.1 100)), (1, .int x1), (2, .int x2), (3, .int x3)] → W p l e (ea_rm 1 26) s m args below meth cd H locs 0 0 (MQ below (ea_Qv E ids res) args s 0 0 (ea_Ad E ids)) (F0 m 7 ls [])) : ∀ (x1 : Int32) (x2 : Int32) (x3 : Int32) (M : eM) (H : Heap) (locs : List Loc) (ls : Array Slot), fX11_findWords_49 k7 x1 x2 x3 M = some res → ea_w E ids M s H locs → lv_has ls 7 [(0, .ref (E.1 100)), (1, .int x1), (2, .int x2), (3, .int x3)] → W p l e (ea_rm 1 26) s m args below meth cd H locs 0 0 (MQ below (ea_Qv E ids res) args s 0 0 (ea_Ad E ids)) (F0 m 49 ls []) := by
  intro x1 x2 x3 M H locs ls hf  hw hl
  replace hf := (fX11_findWords_49.eq_1 ..).symm.trans hf
  refine lv_iinc (v := x3 + (1 : Int32)) (lv' := [(3, .int (x3 + (1 : Int32))), (0, .ref (E.1 100)), (1, .int x1), (2, .int x2)]) C.1 C.2.1 dX11_findWords_49 hl (k := 3) rfl rfl (by decide) rfl (fun ls hl => ?_)
  refine lv_goto (tgt := 7) C.1 C.2.1 dX11_findWords_52 (by decide) ?_
  exact hk7 _ _ _ _ _ _ _ hf hw (lv_sub hl [1, 2, 3, 0] rfl)
set_option maxHeartbeats 4000000 in
set_option maxRecDepth 20000 in
theorem wX11_findWords_7 (C : ea_C p s m args meth cd cX11_findWords 7 none RX11) (hY : ea_Y ids) {k55 : Int32 → Int32 → eM → Option (eM)} (hk55 : ∀ (x1 : Int32) (x2 : Int32) (M : eM) (H : Heap) (locs : List Loc) (ls : Array Slot), k55 x1 x2 M = some res → ea_w E ids M s H locs → lv_has ls 7 [(0, .ref (E.1 100)), (1, .int x1), (2, .int x2)] → W p l e (ea_rm 1 26) s m args below meth cd H locs 0 0 (MQ below (ea_Qv E ids res) args s 0 0 (ea_Ad E ids)) (F0 m 55 ls [])) : ∀ (n : Nat) (x1 : Int32) (x2 : Int32) (x3 : Int32) (M : eM) (H : Heap) (locs : List Loc) (ls : Array Slot), fX11_findWords_7 k55 n x1 x2 x3 M = some res → ea_w E ids M s H locs → lv_has ls 7 [(0, .ref (E.1 100)), (1, .int x1), (2, .int x2), (3, .int x3)] → W p l e (ea_rm 1 26) s m args below meth cd H locs 0 0 (MQ below (ea_Qv E ids res) args s 0 0 (ea_Ad E ids)) (F0 m 7 ls []) := by
  intro n
  induction n with
  | zero => intro x1 x2 x3 M H locs ls hf; cases hf
  | succ n ih =>
    intro x1 x2 x3 M H locs ls hf  hw hl
    replace hf := (fX11_findWords_7.eq_2 ..).symm.trans hf
    refine lv_iload_n C.1 C.2.1 dX11_findWords_7 rfl (lv_at hl 3 rfl) ?_
    refine lv_iconst (v := 2) C.1 C.2.1 dX11_findWords_8 (by decide) ?_
    refine lv_icmp_ge (tgt := 55) C.1 C.2.1 dX11_findWords_9 (by decide) (fun hc1 => ?_) (fun hc1 => ?_)
    · replace hf := ea_if_t hc1 hf
      exact hk55 _ _ _ _ _ _ hf hw (lv_sub hl [0, 1, 2] rfl)
    · replace hf := ea_if_f hc1 hf
      refine lv_aload_n C.1 C.2.1 dX11_findWords_12 rfl (lv_at hl 0 rfl) ?_
      refine lv_iload_n C.1 C.2.1 dX11_findWords_13 rfl (lv_at hl 1 rfl) ?_
      refine lv_iload_n C.1 C.2.1 dX11_findWords_14 rfl (lv_at hl 3 rfl) ?_
      refine lv_iload_n C.1 C.2.1 dX11_findWords_15 rfl (lv_at hl 2 rfl) ?_
      obtain ⟨r3, M4, he2, hf⟩ := ea_ci_s hf
      refine ea_runi2 hw (cl_X11_277 C hw (hY 100 11 rfl) (As := [.int x1, .int x3, .int x2]) (rest := []) (mX11_lookAt (l := l) (E := E) (ids := ids) hY he2) (by decide) rfl hl.1 rfl (Nat.le_of_ble_eq_true rfl) dX11_findWords_16 ⟨Nat.le_refl _, Nat.le_refl _⟩) (fun H locs hw => ?_)
      refine lv_istore (lv' := [(4, .int r3), (0, .ref (E.1 100)), (1, .int x1), (2, .int x2), (3, .int x3)]) C.1 C.2.1 dX11_findWords_19 hl (by decide) rfl (fun ls hl => ?_)
      refine lv_iload C.1 C.2.1 dX11_findWords_21 (lv_at hl 0 rfl) ?_
      refine lv_if_lt (tgt := 49) C.1 C.2.1 dX11_findWords_23 (by decide) (fun hc5 => ?_) (fun hc5 => ?_)
      · replace hf := ea_if_t hc5 hf
        exact wX11_findWords_49 C hY ih _ _ _ _ _ _ _ hf hw (lv_sub hl [1, 2, 3, 4] rfl)
      · replace hf := ea_if_f hc5 hf
        refine lv_aload_n C.1 C.2.1 dX11_findWords_26 rfl (lv_at hl 1 rfl) ?_
        refine gf_X11_55 C hw (hY 100 11 rfl) dX11_findWords_27 ?_
        refine W.eq (g2 := F0 m 30 ls [.ref (E.1 114)]) rfl ?_
        refine lv_iload C.1 C.2.1 dX11_findWords_30 (lv_at hl 0 rfl) ?_
        refine lv_bipush (v := 6) C.1 C.2.1 dX11_findWords_32 (by decide) ?_
        refine lv_iadd C.1 C.2.1 dX11_findWords_34 ?_
        obtain ⟨hc6, hf⟩ := ea_ck_s hf
        refine ea_iald C hw (show ea_ok ids 114 20 from ok_11_27 (hY 100 11 rfl)) hc6 dX11_findWords_35 ?_
        refine lv_if_ne (tgt := 49) C.1 C.2.1 dX11_findWords_36 (by decide) (fun hc7 => ?_) (fun hc7 => ?_)
        · replace hf := ea_if_f hc7 hf
          exact wX11_findWords_49 C hY ih _ _ _ _ _ _ _ hf hw (lv_sub hl [1, 2, 3, 4] rfl)
        · replace hf := ea_if_t hc7 hf
          refine lv_aload_n C.1 C.2.1 dX11_findWords_39 rfl (lv_at hl 1 rfl) ?_
          refine lv_iconst (v := 0) C.1 C.2.1 dX11_findWords_40 (by decide) ?_
          refine lv_iload_n C.1 C.2.1 dX11_findWords_41 rfl (lv_at hl 4 rfl) ?_
          refine lv_iload C.1 C.2.1 dX11_findWords_42 (lv_at hl 0 rfl) ?_
          refine lv_iconst (v := 3) C.1 C.2.1 dX11_findWords_44 (by decide) ?_
          refine lv_iadd C.1 C.2.1 dX11_findWords_45 ?_
          obtain ⟨M9, he8, hf⟩ := ea_cv_s hf
          refine ea_runv hw (cl_X11_286 C hw (hY 100 11 rfl) (As := [.int (0 : Int32), .int x3, .int (r3 + (3 : Int32))]) (rest := []) (mX11_addWord (l := l) (E := E) (ids := ids) hY he8) (by decide) rfl hl.1 rfl (Nat.le_of_ble_eq_true rfl) dX11_findWords_46 ⟨Nat.le_refl _, Nat.le_refl _⟩) (fun H locs hw => ?_)
          exact wX11_findWords_49 C hY ih _ _ _ _ _ _ _ hf hw (lv_sub hl [1, 2, 3, 4] rfl)
set_option maxHeartbeats 4000000 in
set_option maxRecDepth 20000 in
theorem wX11_findWords_172 (C : ea_C p s m args meth cd cX11_findWords 7 none RX11) (hY : ea_Y ids) {k113 : Int32 → Int32 → Int32 → Int32 → Int32 → Int32 → eM → Option (eM)} (hk113 : ∀ (x1 : Int32) (x2 : Int32) (x3 : Int32) (x4 : Int32) (x5 : Int32) (x6 : Int32) (M : eM) (H : Heap) (locs : List Loc) (ls : Array Slot), k113 x1 x2 x3 x4 x5 x6 M = some res → ea_w E ids M s H locs → lv_has ls 7 [(0, .ref (E.1 100)), (1, .int x1), (2, .int x2), (3, .int x3), (4, .int x4), (5, .int x5), (6, .int x6)] → W p l e (ea_rm 1 26) s m args below meth cd H locs 0 0 (MQ below (ea_Qv E ids res) args s 0 0 (ea_Ad E ids)) (F0 m 113 ls [])) : ∀ (x1 : Int32) (x2 : Int32) (x3 : Int32) (x4 : Int32) (x5 : Int32) (x6 : Int32) (M : eM) (H : Heap) (locs : List Loc) (ls : Array Slot), fX11_findWords_172 k113 x1 x2 x3 x4 x5 x6 M = some res → ea_w E ids M s H locs → lv_has ls 7 [(0, .ref (E.1 100)), (1, .int x1), (2, .int x2), (3, .int x3), (4, .int x4), (5, .int x5), (6, .int x6)] → W p l e (ea_rm 1 26) s m args below meth cd H locs 0 0 (MQ below (ea_Qv E ids res) args s 0 0 (ea_Ad E ids)) (F0 m 172 ls []) := by
  intro x1 x2 x3 x4 x5 x6 M H locs ls hf  hw hl
  replace hf := (fX11_findWords_172.eq_1 ..).symm.trans hf
  refine lv_iinc (v := x6 + (1 : Int32)) (lv' := [(6, .int (x6 + (1 : Int32))), (0, .ref (E.1 100)), (1, .int x1), (2, .int x2), (3, .int x3), (4, .int x4), (5, .int x5)]) C.1 C.2.1 dX11_findWords_172 hl (k := 6) rfl rfl (by decide) rfl (fun ls hl => ?_)
  refine lv_goto (tgt := 113) C.1 C.2.1 dX11_findWords_175 (by decide) ?_
  exact hk113 _ _ _ _ _ _ _ _ _ _ hf hw (lv_sub hl [1, 2, 3, 4, 5, 6, 0] rfl)
set_option maxHeartbeats 4000000 in
set_option maxRecDepth 20000 in
theorem wX11_findWords_113 (C : ea_C p s m args meth cd cX11_findWords 7 none RX11) (hY : ea_Y ids) {k178 : Int32 → Int32 → Int32 → Int32 → Int32 → eM → Option (eM)} (hk178 : ∀ (x1 : Int32) (x2 : Int32) (x3 : Int32) (x4 : Int32) (x5 : Int32) (M : eM) (H : Heap) (locs : List Loc) (ls : Array Slot), k178 x1 x2 x3 x4 x5 M = some res → ea_w E ids M s H locs → lv_has ls 7 [(0, .ref (E.1 100)), (1, .int x1), (2, .int x2), (3, .int x3), (4, .int x4), (5, .int x5)] → W p l e (ea_rm 1 26) s m args below meth cd H locs 0 0 (MQ below (ea_Qv E ids res) args s 0 0 (ea_Ad E ids)) (F0 m 178 ls [])) : ∀ (n : Nat) (x1 : Int32) (x2 : Int32) (x3 : Int32) (x4 : Int32) (x5 : Int32) (x6 : Int32) (M : eM) (H : Heap) (locs : List Loc) (ls : Array Slot), fX11_findWords_113 k178 n x1 x2 x3 x4 x5 x6 M = some res → ea_w E ids M s H locs → lv_has ls 7 [(0, .ref (E.1 100)), (1, .int x1), (2, .int x2), (3, .int x3), (4, .int x4), (5, .int x5), (6, .int x6)] → W p l e (ea_rm 1 26) s m args below meth cd H locs 0 0 (MQ below (ea_Qv E ids res) args s 0 0 (ea_Ad E ids)) (F0 m 113 ls []) := by
  intro n
  induction n with
  | zero => intro x1 x2 x3 x4 x5 x6 M H locs ls hf; cases hf
  | succ n ih =>
    intro x1 x2 x3 x4 x5 x6 M H locs ls hf  hw hl
    replace hf := (fX11_findWords_113.eq_2 ..).symm.trans hf
    refine lv_iload C.1 C.2.1 dX11_findWords_113 (lv_at hl 6 rfl) ?_
    refine lv_aload_n C.1 C.2.1 dX11_findWords_115 rfl (lv_at hl 0 rfl) ?_
    refine gf_X11_55 C hw (hY 100 11 rfl) dX11_findWords_116 ?_
    refine W.eq (g2 := F0 m 119 ls [.ref (E.1 114), .int x6]) rfl ?_
    refine lv_iconst (v := 2) C.1 C.2.1 dX11_findWords_119 (by decide) ?_
    refine ea_iald C hw (show ea_ok ids 114 20 from ok_11_27 (hY 100 11 rfl)) (by decide) dX11_findWords_120 ?_
    refine lv_icmp_ge (tgt := 178) C.1 C.2.1 dX11_findWords_121 (by decide) (fun hc1 => ?_) (fun hc1 => ?_)
    · replace hf := ea_if_t hc1 hf
      exact hk178 _ _ _ _ _ _ _ _ _ hf hw (lv_sub hl [0, 1, 2, 3, 4, 5] rfl)
    · replace hf := ea_if_f hc1 hf
      refine lv_aload_n C.1 C.2.1 dX11_findWords_124 rfl (lv_at hl 0 rfl) ?_
      refine gf_X11_55 C hw (hY 100 11 rfl) dX11_findWords_125 ?_
      refine W.eq (g2 := F0 m 128 ls [.ref (E.1 114)]) rfl ?_
      refine lv_sipush (v := 754) C.1 C.2.1 dX11_findWords_128 (by decide) ?_
      refine lv_iconst (v := 5) C.1 C.2.1 dX11_findWords_131 (by decide) ?_
      refine lv_iload C.1 C.2.1 dX11_findWords_132 (lv_at hl 6 rfl) ?_
      refine lv_imul C.1 C.2.1 dX11_findWords_134 ?_
      refine lv_iadd C.1 C.2.1 dX11_findWords_135 ?_
      refine lv_iconst (v := 1) C.1 C.2.1 dX11_findWords_136 (by decide) ?_
      refine lv_iadd C.1 C.2.1 dX11_findWords_137 ?_
      obtain ⟨hc2, hf⟩ := ea_ck_s hf
      refine ea_iald C hw (show ea_ok ids 114 20 from ok_11_27 (hY 100 11 rfl)) hc2 dX11_findWords_138 ?_
      refine lv_iload_n C.1 C.2.1 dX11_findWords_139 rfl (lv_at hl 3 rfl) ?_
      refine lv_icmp_ne (tgt := 172) C.1 C.2.1 dX11_findWords_140 (by decide) (fun hc3 => ?_) (fun hc3 => ?_)
      · replace hf := ea_if_f hc3 hf
        exact wX11_findWords_172 C hY ih _ _ _ _ _ _ _ _ _ _ hf hw (lv_sub hl [0, 1, 2, 3, 4, 5, 6] rfl)
      · replace hf := ea_if_t hc3 hf
        refine lv_aload_n C.1 C.2.1 dX11_findWords_143 rfl (lv_at hl 0 rfl) ?_
        refine gf_X11_55 C hw (hY 100 11 rfl) dX11_findWords_144 ?_
        refine W.eq (g2 := F0 m 147 ls [.ref (E.1 114)]) rfl ?_
        refine lv_sipush (v := 754) C.1 C.2.1 dX11_findWords_147 (by decide) ?_
        refine lv_iconst (v := 5) C.1 C.2.1 dX11_findWords_150 (by decide) ?_
        refine lv_iload C.1 C.2.1 dX11_findWords_151 (lv_at hl 6 rfl) ?_
        refine lv_imul C.1 C.2.1 dX11_findWords_153 ?_
        refine lv_iadd C.1 C.2.1 dX11_findWords_154 ?_
        obtain ⟨hc4, hf⟩ := ea_ck_s hf
        refine ea_iald C hw (show ea_ok ids 114 20 from ok_11_27 (hY 100 11 rfl)) hc4 dX11_findWords_155 ?_
        refine lv_iload_n C.1 C.2.1 dX11_findWords_156 rfl (lv_at hl 2 rfl) ?_
        refine lv_icmp_gt (tgt := 172) C.1 C.2.1 dX11_findWords_157 (by decide) (fun hc5 => ?_) (fun hc5 => ?_)
        · replace hf := ea_if_t hc5 hf
          exact wX11_findWords_172 C hY ih _ _ _ _ _ _ _ _ _ _ hf hw (lv_sub hl [0, 1, 2, 3, 4, 5, 6] rfl)
        · replace hf := ea_if_f hc5 hf
          refine lv_sipush (v := 754) C.1 C.2.1 dX11_findWords_160 (by decide) ?_
          refine lv_iconst (v := 5) C.1 C.2.1 dX11_findWords_163 (by decide) ?_
          refine lv_iload C.1 C.2.1 dX11_findWords_164 (lv_at hl 6 rfl) ?_
          refine lv_imul C.1 C.2.1 dX11_findWords_166 ?_
          refine lv_iadd C.1 C.2.1 dX11_findWords_167 ?_
          refine lv_iconst (v := 2) C.1 C.2.1 dX11_findWords_168 (by decide) ?_
          refine lv_iadd C.1 C.2.1 dX11_findWords_169 ?_
          obtain ⟨y6, ey7, hf⟩ := ea_lt_s hf
          refine ea_topi ey7 ?_
          refine lv_istore (lv' := [(5, .int y6), (0, .ref (E.1 100)), (1, .int x1), (2, .int x2), (3, .int x3), (4, .int x4), (6, .int x6)]) C.1 C.2.1 dX11_findWords_170 hl (by decide) rfl (fun ls hl => ?_)
          exact wX11_findWords_172 C hY ih _ _ _ _ _ _ _ _ _ _ hf hw (lv_sub hl [1, 2, 3, 4, 5, 0, 6] rfl)
set_option maxHeartbeats 4000000 in
set_option maxRecDepth 20000 in
theorem wX11_findWords_194 (C : ea_C p s m args meth cd cX11_findWords 7 none RX11) (hY : ea_Y ids) {k57 : Int32 → Int32 → Int32 → eM → Option (eM)} (hk57 : ∀ (x1 : Int32) (x2 : Int32) (x3 : Int32) (M : eM) (H : Heap) (locs : List Loc) (ls : Array Slot), k57 x1 x2 x3 M = some res → ea_w E ids M s H locs → lv_has ls 7 [(0, .ref (E.1 100)), (1, .int x1), (2, .int x2), (3, .int x3)] → W p l e (ea_rm 1 26) s m args below meth cd H locs 0 0 (MQ below (ea_Qv E ids res) args s 0 0 (ea_Ad E ids)) (F0 m 57 ls [])) : ∀ (x1 : Int32) (x2 : Int32) (x3 : Int32) (M : eM) (H : Heap) (locs : List Loc) (ls : Array Slot), fX11_findWords_194 k57 x1 x2 x3 M = some res → ea_w E ids M s H locs → lv_has ls 7 [(0, .ref (E.1 100)), (1, .int x1), (2, .int x2), (3, .int x3)] → W p l e (ea_rm 1 26) s m args below meth cd H locs 0 0 (MQ below (ea_Qv E ids res) args s 0 0 (ea_Ad E ids)) (F0 m 194 ls []) := by
  intro x1 x2 x3 M H locs ls hf  hw hl
  replace hf := (fX11_findWords_194.eq_1 ..).symm.trans hf
  refine lv_iinc (v := x3 + (1 : Int32)) (lv' := [(3, .int (x3 + (1 : Int32))), (0, .ref (E.1 100)), (1, .int x1), (2, .int x2)]) C.1 C.2.1 dX11_findWords_194 hl (k := 3) rfl rfl (by decide) rfl (fun ls hl => ?_)
  refine lv_goto (tgt := 57) C.1 C.2.1 dX11_findWords_197 (by decide) ?_
  exact hk57 _ _ _ _ _ _ _ hf hw (lv_sub hl [1, 2, 3, 0] rfl)
set_option maxHeartbeats 4000000 in
set_option maxRecDepth 20000 in
theorem wX11_findWords_178 (C : ea_C p s m args meth cd cX11_findWords 7 none RX11) (hY : ea_Y ids) {k57 : Int32 → Int32 → Int32 → eM → Option (eM)} (hk57 : ∀ (x1 : Int32) (x2 : Int32) (x3 : Int32) (M : eM) (H : Heap) (locs : List Loc) (ls : Array Slot), k57 x1 x2 x3 M = some res → ea_w E ids M s H locs → lv_has ls 7 [(0, .ref (E.1 100)), (1, .int x1), (2, .int x2), (3, .int x3)] → W p l e (ea_rm 1 26) s m args below meth cd H locs 0 0 (MQ below (ea_Qv E ids res) args s 0 0 (ea_Ad E ids)) (F0 m 57 ls [])) : ∀ (x1 : Int32) (x2 : Int32) (x3 : Int32) (x4 : Int32) (x5 : Int32) (M : eM) (H : Heap) (locs : List Loc) (ls : Array Slot), fX11_findWords_178 k57 x1 x2 x3 x4 x5 M = some res → ea_w E ids M s H locs → lv_has ls 7 [(0, .ref (E.1 100)), (1, .int x1), (2, .int x2), (3, .int x3), (4, .int x4), (5, .int x5)] → W p l e (ea_rm 1 26) s m args below meth cd H locs 0 0 (MQ below (ea_Qv E ids res) args s 0 0 (ea_Ad E ids)) (F0 m 178 ls []) := by
  intro x1 x2 x3 x4 x5 M H locs ls hf  hw hl
  replace hf := (fX11_findWords_178.eq_1 ..).symm.trans hf
  refine lv_aload_n C.1 C.2.1 dX11_findWords_178 rfl (lv_at hl 0 rfl) ?_
  refine lv_aload_n C.1 C.2.1 dX11_findWords_179 rfl (lv_at hl 0 rfl) ?_
  refine gf_X11_55 C hw (hY 100 11 rfl) dX11_findWords_180 ?_
  refine W.eq (g2 := F0 m 183 ls [.ref (E.1 114), .ref (E.1 100)]) rfl ?_
  refine lv_iload C.1 C.2.1 dX11_findWords_183 (lv_at hl 4 rfl) ?_
  refine lv_iconst (v := 2) C.1 C.2.1 dX11_findWords_185 (by decide) ?_
  refine lv_iadd C.1 C.2.1 dX11_findWords_186 ?_
  obtain ⟨hc1, hf⟩ := ea_ck_s hf
  refine ea_iald C hw (show ea_ok ids 114 20 from ok_11_27 (hY 100 11 rfl)) hc1 dX11_findWords_187 ?_
  refine lv_iconst (v := 0) C.1 C.2.1 dX11_findWords_188 (by decide) ?_
  refine lv_iload C.1 C.2.1 dX11_findWords_189 (lv_at hl 5 rfl) ?_
  obtain ⟨M3, he2, hf⟩ := ea_cv_s hf
  refine ea_runv hw (cl_X11_286 C hw (hY 100 11 rfl) (As := [.int (M.1 114 (x4 + (2 : Int32)).toNatClampNeg), .int (0 : Int32), .int x5]) (rest := []) (mX11_addWord (l := l) (E := E) (ids := ids) hY he2) (by decide) rfl hl.1 rfl (Nat.le_of_ble_eq_true rfl) dX11_findWords_191 ⟨Nat.le_refl _, Nat.le_refl _⟩) (fun H locs hw => ?_)
  exact wX11_findWords_194 C hY hk57 _ _ _ _ _ _ _ hf hw (lv_sub hl [0, 1, 2, 3] rfl)
set_option maxHeartbeats 4000000 in
set_option maxRecDepth 20000 in
theorem wX11_findWords_57 (C : ea_C p s m args meth cd cX11_findWords 7 none RX11) (hY : ea_Y ids) : ∀ (n : Nat) (x1 : Int32) (x2 : Int32) (x3 : Int32) (M : eM) (H : Heap) (locs : List Loc) (ls : Array Slot), fX11_findWords_57 n x1 x2 x3 M = some res → ea_w E ids M s H locs → lv_has ls 7 [(0, .ref (E.1 100)), (1, .int x1), (2, .int x2), (3, .int x3)] → W p l e (ea_rm 1 26) s m args below meth cd H locs 0 0 (MQ below (ea_Qv E ids res) args s 0 0 (ea_Ad E ids)) (F0 m 57 ls []) := by
  intro n
  induction n with
  | zero => intro x1 x2 x3 M H locs ls hf; cases hf
  | succ n ih =>
    intro x1 x2 x3 M H locs ls hf  hw hl
    replace hf := (fX11_findWords_57.eq_2 ..).symm.trans hf
    refine lv_iload_n C.1 C.2.1 dX11_findWords_57 rfl (lv_at hl 3 rfl) ?_
    refine lv_aload_n C.1 C.2.1 dX11_findWords_58 rfl (lv_at hl 0 rfl) ?_
    refine gf_X11_55 C hw (hY 100 11 rfl) dX11_findWords_59 ?_
    refine W.eq (g2 := F0 m 62 ls [.ref (E.1 114), .int x3]) rfl ?_
    refine lv_iconst (v := 1) C.1 C.2.1 dX11_findWords_62 (by decide) ?_
    refine ea_iald C hw (show ea_ok ids 114 20 from ok_11_27 (hY 100 11 rfl)) (by decide) dX11_findWords_63 ?_
    refine lv_icmp_ge (tgt := 200) C.1 C.2.1 dX11_findWords_64 (by decide) (fun hc1 => ?_) (fun hc1 => ?_)
    · replace hf := ea_if_t hc1 hf
      exact ea_vret C hw hf dX11_findWords_200
    · replace hf := ea_if_f hc1 hf
      refine lv_sipush (v := 634) C.1 C.2.1 dX11_findWords_67 (by decide) ?_
      refine lv_bipush (v := 6) C.1 C.2.1 dX11_findWords_70 (by decide) ?_
      refine lv_iload_n C.1 C.2.1 dX11_findWords_72 rfl (lv_at hl 3 rfl) ?_
      refine lv_imul C.1 C.2.1 dX11_findWords_73 ?_
      refine lv_iadd C.1 C.2.1 dX11_findWords_74 ?_
      obtain ⟨y2, ey3, hf⟩ := ea_lt_s hf
      refine ea_topi ey3 ?_
      refine lv_istore (lv' := [(4, .int y2), (0, .ref (E.1 100)), (1, .int x1), (2, .int x2), (3, .int x3)]) C.1 C.2.1 dX11_findWords_75 hl (by decide) rfl (fun ls hl => ?_)
      refine lv_aload_n C.1 C.2.1 dX11_findWords_77 rfl (lv_at hl 1 rfl) ?_
      refine gf_X11_55 C hw (hY 100 11 rfl) dX11_findWords_78 ?_
      refine W.eq (g2 := F0 m 81 ls [.ref (E.1 114)]) rfl ?_
      refine lv_iload C.1 C.2.1 dX11_findWords_81 (lv_at hl 0 rfl) ?_
      obtain ⟨hc4, hf⟩ := ea_ck_s hf
      refine ea_iald C hw (show ea_ok ids 114 20 from ok_11_27 (hY 100 11 rfl)) hc4 dX11_findWords_83 ?_
      refine lv_iload_n C.1 C.2.1 dX11_findWords_84 rfl (lv_at hl 3 rfl) ?_
      refine lv_icmp_gt (tgt := 194) C.1 C.2.1 dX11_findWords_85 (by decide) (fun hc5 => ?_) (fun hc5 => ?_)
      · replace hf := ea_if_t hc5 hf
        exact wX11_findWords_194 C hY ih _ _ _ _ _ _ _ hf hw (lv_sub hl [1, 2, 3, 4] rfl)
      · replace hf := ea_if_f hc5 hf
        refine lv_aload_n C.1 C.2.1 dX11_findWords_88 rfl (lv_at hl 1 rfl) ?_
        refine gf_X11_55 C hw (hY 100 11 rfl) dX11_findWords_89 ?_
        refine W.eq (g2 := F0 m 92 ls [.ref (E.1 114)]) rfl ?_
        refine lv_iload C.1 C.2.1 dX11_findWords_92 (lv_at hl 0 rfl) ?_
        refine lv_iconst (v := 1) C.1 C.2.1 dX11_findWords_94 (by decide) ?_
        refine lv_iadd C.1 C.2.1 dX11_findWords_95 ?_
        obtain ⟨hc6, hf⟩ := ea_ck_s hf
        refine ea_iald C hw (show ea_ok ids 114 20 from ok_11_27 (hY 100 11 rfl)) hc6 dX11_findWords_96 ?_
        refine lv_iload_n C.1 C.2.1 dX11_findWords_97 rfl (lv_at hl 2 rfl) ?_
        refine lv_icmp_eq (tgt := 104) C.1 C.2.1 dX11_findWords_98 (by decide) (fun hc7 => ?_) (fun hc7 => ?_)
        · replace hf := ea_if_t hc7 hf
          refine lv_iload C.1 C.2.1 dX11_findWords_104 (lv_at hl 0 rfl) ?_
          refine lv_iconst (v := 3) C.1 C.2.1 dX11_findWords_106 (by decide) ?_
          refine lv_iadd C.1 C.2.1 dX11_findWords_107 ?_
          refine lv_istore (lv' := [(5, .int (y2 + (3 : Int32))), (4, .int y2), (0, .ref (E.1 100)), (1, .int x1), (2, .int x2), (3, .int x3)]) C.1 C.2.1 dX11_findWords_108 hl (by decide) rfl (fun ls hl => ?_)
          refine lv_iconst (v := 0) C.1 C.2.1 dX11_findWords_110 (by decide) ?_
          refine lv_istore (lv' := [(6, .int (0 : Int32)), (5, .int (y2 + (3 : Int32))), (4, .int y2), (0, .ref (E.1 100)), (1, .int x1), (2, .int x2), (3, .int x3)]) C.1 C.2.1 dX11_findWords_111 hl (by decide) rfl (fun ls hl => ?_)
          exact wX11_findWords_113 C hY (wX11_findWords_178 C hY ih) ea_N _ _ _ _ _ _ _ _ _ _ hf hw (lv_sub hl [3, 4, 5, 6, 2, 1, 0] rfl)
        · replace hf := ea_if_f hc7 hf
          refine lv_goto (tgt := 194) C.1 C.2.1 dX11_findWords_101 (by decide) ?_
          exact wX11_findWords_194 C hY ih _ _ _ _ _ _ _ hf hw (lv_sub hl [1, 2, 3, 4] rfl)
set_option maxHeartbeats 4000000 in
set_option maxRecDepth 20000 in
theorem wX11_findWords_55 (C : ea_C p s m args meth cd cX11_findWords 7 none RX11) (hY : ea_Y ids) : ∀ (x1 : Int32) (x2 : Int32) (M : eM) (H : Heap) (locs : List Loc) (ls : Array Slot), fX11_findWords_55 x1 x2 M = some res → ea_w E ids M s H locs → lv_has ls 7 [(0, .ref (E.1 100)), (1, .int x1), (2, .int x2)] → W p l e (ea_rm 1 26) s m args below meth cd H locs 0 0 (MQ below (ea_Qv E ids res) args s 0 0 (ea_Ad E ids)) (F0 m 55 ls []) := by
  intro x1 x2 M H locs ls hf  hw hl
  replace hf := (fX11_findWords_55.eq_1 ..).symm.trans hf
  refine lv_iconst (v := 0) C.1 C.2.1 dX11_findWords_55 (by decide) ?_
  refine lv_istore_n (lv' := [(3, .int (0 : Int32)), (0, .ref (E.1 100)), (1, .int x1), (2, .int x2)]) C.1 C.2.1 dX11_findWords_56 rfl hl (by decide) rfl (fun ls hl => ?_)
  exact wX11_findWords_57 C hY ea_N _ _ _ _ _ _ _ hf hw (lv_sub hl [1, 2, 3, 0] rfl)
set_option maxHeartbeats 4000000 in
set_option maxRecDepth 20000 in
theorem wX11_findWords_0 (C : ea_C p s m args meth cd cX11_findWords 7 none RX11) (hY : ea_Y ids) : ∀ (x1 : Int32) (x2 : Int32) (M : eM) (H : Heap) (locs : List Loc) (ls : Array Slot), fX11_findWords_0 x1 x2 M = some res → ea_w E ids M s H locs → lv_has ls 7 [(0, .ref (E.1 100)), (1, .int x1), (2, .int x2)] → W p l e (ea_rm 1 26) s m args below meth cd H locs 0 0 (MQ below (ea_Qv E ids res) args s 0 0 (ea_Ad E ids)) (F0 m 0 ls []) := by
  intro x1 x2 M H locs ls hf  hw hl
  replace hf := (fX11_findWords_0.eq_1 ..).symm.trans hf
  refine lv_aload_n C.1 C.2.1 dX11_findWords_0 rfl (lv_at hl 0 rfl) ?_
  refine lv_iconst (v := 0) C.1 C.2.1 dX11_findWords_1 (by decide) ?_
  refine pu_X11_283 C hw (hY 100 11 rfl) dX11_findWords_2 (fun H locs hw => ?_)
  refine lv_iconst (v := 0) C.1 C.2.1 dX11_findWords_5 (by decide) ?_
  refine lv_istore_n (lv' := [(3, .int (0 : Int32)), (0, .ref (E.1 100)), (1, .int x1), (2, .int x2)]) C.1 C.2.1 dX11_findWords_6 rfl hl (by decide) rfl (fun ls hl => ?_)
  exact wX11_findWords_7 C hY (wX11_findWords_55 C hY) ea_N _ _ _ _ _ _ _ hf hw (lv_sub hl [1, 2, 3, 0] rfl)
set_option maxHeartbeats 4000000 in
set_option maxRecDepth 20000 in
theorem mX11_findWords {l : Launch} {E : eE} {ids : List Nat} (hY : ea_Y ids) {x1 : Int32} {x2 : Int32} {M : eM} {res : eM} (hf : fX11_findWords x1 x2 M = some res) : ea_Mv l yX11_findWords cX11_findWords 7 1 26 E ids [.ref (E.1 100), .int x1, .int x2] M res := by
  refine ea_gov (by decide) (Nat.le_of_ble_eq_true rfl) wc_X11_findWords ?_
  intro p e s m below meth cd ls C hw hl
  exact wX11_findWords_0 C hY _ _ _ _ _ _ hf hw hl
end SX11_findWords

def fX11_lightAt_0 (x1 : Int32) (x2 : Int32) (M : eM) : Option (Int32 × eM) := ea_ck (ea_ix (((4 : Int32) * x1) + (1 : Int32)) (ea_len 108)) (ea_lt (M.1 108 (((4 : Int32) * x1) + (1 : Int32)).toNatClampNeg) (fun y2 => if (M.1 102 (0 : Int32).toNatClampNeg) = (1 : Int32) then (some (y2, M)) else (ea_ck (ea_ix (((4 : Int32) * x1) + (2 : Int32)) (ea_len 108)) (ea_ck (ea_nz ((M.1 102 (0 : Int32).toNatClampNeg) - (1 : Int32))) (some (y2 + ((((M.1 108 (((4 : Int32) * x1) + (2 : Int32)).toNatClampNeg) - y2) * x2) / ((M.1 102 (0 : Int32).toNatClampNeg) - (1 : Int32))), M))))))
def fX11_lightAt (x1 : Int32) (x2 : Int32) (M : eM) : Option (Int32 × eM) := fX11_lightAt_0 x1 x2 M
section SX11_lightAt
variable {p : Program} {l : Launch} {e : Env} {s : State} {m : MethodId} {args : Array Value} {below : List Frame} {meth : Method} {cd : Code} {E : eE} {ids : List Nat} {res : Int32 × eM}
set_option maxHeartbeats 4000000 in
set_option maxRecDepth 20000 in
theorem wX11_lightAt_0 (C : ea_C p s m args meth cd cX11_lightAt 4 (some .int) RX11) (hY : ea_Y ids) : ∀ (x1 : Int32) (x2 : Int32) (M : eM) (H : Heap) (locs : List Loc) (ls : Array Slot), fX11_lightAt_0 x1 x2 M = some res → ea_w E ids M s H locs → lv_has ls 4 [(0, .ref (E.1 100)), (1, .int x1), (2, .int x2)] → W p l e (ea_rm 0 0) s m args below meth cd H locs 0 0 (MQ below (ea_Qi E ids res) args s 0 0 (ea_Ad E ids)) (F0 m 0 ls []) := by
  intro x1 x2 M H locs ls hf  hw hl
  replace hf := (fX11_lightAt_0.eq_1 ..).symm.trans hf
  refine lv_aload_n C.1 C.2.1 dX11_lightAt_0 rfl (lv_at hl 0 rfl) ?_
  refine gf_X11_37 C hw (hY 100 11 rfl) dX11_lightAt_1 ?_
  refine W.eq (g2 := F0 m 4 ls [.ref (E.1 108)]) rfl ?_
  refine lv_iconst (v := 4) C.1 C.2.1 dX11_lightAt_4 (by decide) ?_
  refine lv_iload_n C.1 C.2.1 dX11_lightAt_5 rfl (lv_at hl 1 rfl) ?_
  refine lv_imul C.1 C.2.1 dX11_lightAt_6 ?_
  refine lv_iconst (v := 1) C.1 C.2.1 dX11_lightAt_7 (by decide) ?_
  refine lv_iadd C.1 C.2.1 dX11_lightAt_8 ?_
  obtain ⟨hc1, hf⟩ := ea_ck_s hf
  refine ea_iald C hw (show ea_ok ids 108 20 from ok_11_18 (hY 100 11 rfl)) hc1 dX11_lightAt_9 ?_
  obtain ⟨y2, ey3, hf⟩ := ea_lt_s hf
  refine ea_topi ey3 ?_
  refine lv_istore_n (lv' := [(3, .int y2), (0, .ref (E.1 100)), (1, .int x1), (2, .int x2)]) C.1 C.2.1 dX11_lightAt_10 rfl hl (by decide) rfl (fun ls hl => ?_)
  refine lv_aload_n C.1 C.2.1 dX11_lightAt_11 rfl (lv_at hl 1 rfl) ?_
  refine gf_X11_17 C hw (hY 100 11 rfl) dX11_lightAt_12 ?_
  refine W.eq (g2 := F0 m 15 ls [.ref (E.1 102)]) rfl ?_
  refine lv_iconst (v := 0) C.1 C.2.1 dX11_lightAt_15 (by decide) ?_
  refine ea_iald C hw (show ea_ok ids 102 20 from ok_11_12 (hY 100 11 rfl)) (by decide) dX11_lightAt_16 ?_
  refine lv_iconst (v := 1) C.1 C.2.1 dX11_lightAt_17 (by decide) ?_
  refine lv_icmp_ne (tgt := 25) C.1 C.2.1 dX11_lightAt_18 (by decide) (fun hc4 => ?_) (fun hc4 => ?_)
  · replace hf := ea_if_f hc4 hf
    refine lv_iload_n C.1 C.2.1 dX11_lightAt_25 rfl (lv_at hl 0 rfl) ?_
    refine lv_aload_n C.1 C.2.1 dX11_lightAt_26 rfl (lv_at hl 1 rfl) ?_
    refine gf_X11_37 C hw (hY 100 11 rfl) dX11_lightAt_27 ?_
    refine W.eq (g2 := F0 m 30 ls [.ref (E.1 108), .int y2]) rfl ?_
    refine lv_iconst (v := 4) C.1 C.2.1 dX11_lightAt_30 (by decide) ?_
    refine lv_iload_n C.1 C.2.1 dX11_lightAt_31 rfl (lv_at hl 2 rfl) ?_
    refine lv_imul C.1 C.2.1 dX11_lightAt_32 ?_
    refine lv_iconst (v := 2) C.1 C.2.1 dX11_lightAt_33 (by decide) ?_
    refine lv_iadd C.1 C.2.1 dX11_lightAt_34 ?_
    obtain ⟨hc5, hf⟩ := ea_ck_s hf
    refine ea_iald C hw (show ea_ok ids 108 20 from ok_11_18 (hY 100 11 rfl)) hc5 dX11_lightAt_35 ?_
    refine lv_iload_n C.1 C.2.1 dX11_lightAt_36 rfl (lv_at hl 0 rfl) ?_
    refine lv_isub C.1 C.2.1 dX11_lightAt_37 ?_
    refine lv_iload_n C.1 C.2.1 dX11_lightAt_38 rfl (lv_at hl 3 rfl) ?_
    refine lv_imul C.1 C.2.1 dX11_lightAt_39 ?_
    refine lv_aload_n C.1 C.2.1 dX11_lightAt_40 rfl (lv_at hl 1 rfl) ?_
    refine gf_X11_17 C hw (hY 100 11 rfl) dX11_lightAt_41 ?_
    refine W.eq (g2 := F0 m 44 ls [.ref (E.1 102), .int (((M.1 108 (((4 : Int32) * x1) + (2 : Int32)).toNatClampNeg) - y2) * x2), .int y2]) rfl ?_
    refine lv_iconst (v := 0) C.1 C.2.1 dX11_lightAt_44 (by decide) ?_
    refine ea_iald C hw (show ea_ok ids 102 20 from ok_11_12 (hY 100 11 rfl)) (by decide) dX11_lightAt_45 ?_
    refine lv_iconst (v := 1) C.1 C.2.1 dX11_lightAt_46 (by decide) ?_
    refine lv_isub C.1 C.2.1 dX11_lightAt_47 ?_
    obtain ⟨hc6, hf⟩ := ea_ck_s hf
    refine lv_idiv C.1 C.2.1 dX11_lightAt_48 (ea_nz_s hc6) ?_
    refine lv_iadd C.1 C.2.1 dX11_lightAt_49 ?_
    exact ea_iret C hw hf dX11_lightAt_50
  · replace hf := ea_if_t hc4 hf
    refine lv_iload_n C.1 C.2.1 dX11_lightAt_21 rfl (lv_at hl 0 rfl) ?_
    refine lv_goto (tgt := 50) C.1 C.2.1 dX11_lightAt_22 (by decide) ?_
    exact ea_iret C hw hf dX11_lightAt_50
set_option maxHeartbeats 4000000 in
set_option maxRecDepth 20000 in
theorem mX11_lightAt {l : Launch} {E : eE} {ids : List Nat} (hY : ea_Y ids) {x1 : Int32} {x2 : Int32} {M : eM} {res : Int32 × eM} (hf : fX11_lightAt x1 x2 M = some res) : ea_Mi l yX11_lightAt cX11_lightAt 4 (some .int) 0 0 E ids [.ref (E.1 100), .int x1, .int x2] M res := by
  refine ea_goi (by decide) (Nat.le_of_ble_eq_true rfl) wc_X11_lightAt ?_
  intro p e s m below meth cd ls C hw hl
  exact wX11_lightAt_0 C hY _ _ _ _ _ _ hf hw hl
end SX11_lightAt

def fX11_hoursOf_110 (k9 : Int32 → Int32 → Int32 → Int32 → Int32 → Int32 → Int32 → eM → Option (Int32 × eM)) (x1 : Int32) (x2 : Int32) (x3 : Int32) (x4 : Int32) (x7 : Int32) (x9 : Int32) (t0 : Int32) (t1 : Int32) (M : eM) : Option (Int32 × eM) := k9 x1 x2 x3 x4 (t1 + t0) x9 (x7 + (1 : Int32)) M
def fX11_hoursOf_79 (k9 : Int32 → Int32 → Int32 → Int32 → Int32 → Int32 → Int32 → eM → Option (Int32 × eM)) (x1 : Int32) (x2 : Int32) (x3 : Int32) (x4 : Int32) (x5 : Int32) (x7 : Int32) (x8 : Int32) (x9 : Int32) (t0 : Int32) (M : eM) : Option (Int32 × eM) := if x4 = 0 then (fX11_hoursOf_110 k9 x1 x2 x3 x4 x7 x9 t0 x5 M) else (ea_ck (ea_ix (((4 : Int32) * x8) + (3 : Int32)) (ea_len 108)) (fX11_hoursOf_110 k9 x1 x2 x3 x4 x7 x9 ((t0 * (M.1 108 (((4 : Int32) * x8) + (3 : Int32)).toNatClampNeg)) / (100 : Int32)) x5 M))
def fX11_hoursOf_57 (k9 : Int32 → Int32 → Int32 → Int32 → Int32 → Int32 → Int32 → eM → Option (Int32 × eM)) (x1 : Int32) (x2 : Int32) (x3 : Int32) (x4 : Int32) (x5 : Int32) (x7 : Int32) (x8 : Int32) (x9 : Int32) (t0 : Int32) (t1 : Int32) (M : eM) : Option (Int32 × eM) := if (t1 - t0) ≤ 0 then (fX11_hoursOf_79 k9 x1 x2 x3 x4 x5 x7 x8 x9 (0 : Int32) M) else (ea_ci (fX11_lightAt x8 x2 M) (fun r3 M4 => fX11_hoursOf_79 k9 x1 x2 x3 x4 x5 x7 x8 x9 ((t1 - t0) * r3) M4))
def fX11_hoursOf_9 : Nat → Int32 → Int32 → Int32 → Int32 → Int32 → Int32 → Int32 → eM → Option (Int32 × eM)
  | 0, _, _, _, _, _, _, _, _ => none
  | n + 1, x1, x2, x3, x4, x5, x6, x7, M => ea_ck (ea_ix x1 (ea_len 107)) (if (M.1 107 x1.toNatClampNeg) ≤ x7 then (some (x5, M)) else (ea_ck (ea_ix ((4 : Int32) * (((6 : Int32) * x1) + x7)) (ea_len 108)) (ea_lt (x6 + (M.1 108 ((4 : Int32) * (((6 : Int32) * x1) + x7)).toNatClampNeg)) (fun y4 => if x3 ≤ x6 then (fX11_hoursOf_57 (fX11_hoursOf_9 n) x1 x2 x3 x4 x5 x7 (((6 : Int32) * x1) + x7) y4 x6 y4 M) else (fX11_hoursOf_57 (fX11_hoursOf_9 n) x1 x2 x3 x4 x5 x7 (((6 : Int32) * x1) + x7) y4 x3 y4 M)))))
def fX11_hoursOf_0 (x1 : Int32) (x2 : Int32) (x3 : Int32) (x4 : Int32) (M : eM) : Option (Int32 × eM) := fX11_hoursOf_9 ea_N x1 x2 x3 x4 (0 : Int32) (0 : Int32) (0 : Int32) M
def fX11_hoursOf (x1 : Int32) (x2 : Int32) (x3 : Int32) (x4 : Int32) (M : eM) : Option (Int32 × eM) := fX11_hoursOf_0 x1 x2 x3 x4 M
section SX11_hoursOf
variable {p : Program} {l : Launch} {e : Env} {s : State} {m : MethodId} {args : Array Value} {below : List Frame} {meth : Method} {cd : Code} {E : eE} {ids : List Nat} {res : Int32 × eM}
set_option maxHeartbeats 4000000 in
set_option maxRecDepth 20000 in
theorem wX11_hoursOf_110 (C : ea_C p s m args meth cd cX11_hoursOf 12 (some .int) RX11) (hY : ea_Y ids) {k9 : Int32 → Int32 → Int32 → Int32 → Int32 → Int32 → Int32 → eM → Option (Int32 × eM)} (hk9 : ∀ (x1 : Int32) (x2 : Int32) (x3 : Int32) (x4 : Int32) (x5 : Int32) (x6 : Int32) (x7 : Int32) (M : eM) (H : Heap) (locs : List Loc) (ls : Array Slot), k9 x1 x2 x3 x4 x5 x6 x7 M = some res → ea_w E ids M s H locs → lv_has ls 12 [(0, .ref (E.1 100)), (1, .int x1), (2, .int x2), (3, .int x3), (4, .int x4), (5, .int x5), (6, .int x6), (7, .int x7)] → W p l e (ea_rm 1 23) s m args below meth cd H locs 0 0 (MQ below (ea_Qi E ids res) args s 0 0 (ea_Ad E ids)) (F0 m 9 ls [])) : ∀ (x1 : Int32) (x2 : Int32) (x3 : Int32) (x4 : Int32) (x7 : Int32) (x9 : Int32) (t0 : Int32) (t1 : Int32) (M : eM) (H : Heap) (locs : List Loc) (ls : Array Slot), fX11_hoursOf_110 k9 x1 x2 x3 x4 x7 x9 t0 t1 M = some res → ea_w E ids M s H locs → lv_has ls 12 [(0, .ref (E.1 100)), (1, .int x1), (2, .int x2), (3, .int x3), (4, .int x4), (7, .int x7), (9, .int x9)] → W p l e (ea_rm 1 23) s m args below meth cd H locs 0 0 (MQ below (ea_Qi E ids res) args s 0 0 (ea_Ad E ids)) (F0 m 110 ls [.int t0, .int t1]) := by
  intro x1 x2 x3 x4 x7 x9 t0 t1 M H locs ls hf  hw hl
  replace hf := (fX11_hoursOf_110.eq_1 ..).symm.trans hf
  refine lv_iadd C.1 C.2.1 dX11_hoursOf_110 ?_
  refine lv_istore (lv' := [(5, .int (t1 + t0)), (0, .ref (E.1 100)), (1, .int x1), (2, .int x2), (3, .int x3), (4, .int x4), (7, .int x7), (9, .int x9)]) C.1 C.2.1 dX11_hoursOf_111 hl (by decide) rfl (fun ls hl => ?_)
  refine lv_iload C.1 C.2.1 dX11_hoursOf_113 (lv_at hl 7 rfl) ?_
  refine lv_istore (lv' := [(6, .int x9), (5, .int (t1 + t0)), (0, .ref (E.1 100)), (1, .int x1), (2, .int x2), (3, .int x3), (4, .int x4), (7, .int x7), (9, .int x9)]) C.1 C.2.1 dX11_hoursOf_115 hl (by decide) rfl (fun ls hl => ?_)
  refine lv_iinc (v := x7 + (1 : Int32)) (lv' := [(7, .int (x7 + (1 : Int32))), (6, .int x9), (5, .int (t1 + t0)), (0, .ref (E.1 100)), (1, .int x1), (2, .int x2), (3, .int x3), (4, .int x4), (9, .int x9)]) C.1 C.2.1 dX11_hoursOf_117 hl (k := 7) rfl rfl (by decide) rfl (fun ls hl => ?_)
  refine lv_goto (tgt := 9) C.1 C.2.1 dX11_hoursOf_120 (by decide) ?_
  exact hk9 _ _ _ _ _ _ _ _ _ _ _ hf hw (lv_sub hl [3, 4, 5, 6, 7, 2, 1, 0] rfl)
set_option maxHeartbeats 4000000 in
set_option maxRecDepth 20000 in
theorem wX11_hoursOf_79 (C : ea_C p s m args meth cd cX11_hoursOf 12 (some .int) RX11) (hY : ea_Y ids) {k9 : Int32 → Int32 → Int32 → Int32 → Int32 → Int32 → Int32 → eM → Option (Int32 × eM)} (hk9 : ∀ (x1 : Int32) (x2 : Int32) (x3 : Int32) (x4 : Int32) (x5 : Int32) (x6 : Int32) (x7 : Int32) (M : eM) (H : Heap) (locs : List Loc) (ls : Array Slot), k9 x1 x2 x3 x4 x5 x6 x7 M = some res → ea_w E ids M s H locs → lv_has ls 12 [(0, .ref (E.1 100)), (1, .int x1), (2, .int x2), (3, .int x3), (4, .int x4), (5, .int x5), (6, .int x6), (7, .int x7)] → W p l e (ea_rm 1 23) s m args below meth cd H locs 0 0 (MQ below (ea_Qi E ids res) args s 0 0 (ea_Ad E ids)) (F0 m 9 ls [])) : ∀ (x1 : Int32) (x2 : Int32) (x3 : Int32) (x4 : Int32) (x5 : Int32) (x7 : Int32) (x8 : Int32) (x9 : Int32) (t0 : Int32) (M : eM) (H : Heap) (locs : List Loc) (ls : Array Slot), fX11_hoursOf_79 k9 x1 x2 x3 x4 x5 x7 x8 x9 t0 M = some res → ea_w E ids M s H locs → lv_has ls 12 [(0, .ref (E.1 100)), (1, .int x1), (2, .int x2), (3, .int x3), (4, .int x4), (5, .int x5), (7, .int x7), (8, .int x8), (9, .int x9)] → W p l e (ea_rm 1 23) s m args below meth cd H locs 0 0 (MQ below (ea_Qi E ids res) args s 0 0 (ea_Ad E ids)) (F0 m 79 ls [.int t0]) := by
  intro x1 x2 x3 x4 x5 x7 x8 x9 t0 M H locs ls hf  hw hl
  replace hf := (fX11_hoursOf_79.eq_1 ..).symm.trans hf
  refine lv_istore (lv' := [(11, .int t0), (0, .ref (E.1 100)), (1, .int x1), (2, .int x2), (3, .int x3), (4, .int x4), (5, .int x5), (7, .int x7), (8, .int x8), (9, .int x9)]) C.1 C.2.1 dX11_hoursOf_79 hl (by decide) rfl (fun ls hl => ?_)
  refine lv_iload C.1 C.2.1 dX11_hoursOf_81 (lv_at hl 6 rfl) ?_
  refine lv_iload C.1 C.2.1 dX11_hoursOf_83 (lv_at hl 5 rfl) ?_
  refine lv_if_ne (tgt := 93) C.1 C.2.1 dX11_hoursOf_85 (by decide) (fun hc1 => ?_) (fun hc1 => ?_)
  · replace hf := ea_if_f hc1 hf
    refine lv_iload C.1 C.2.1 dX11_hoursOf_93 (lv_at hl 0 rfl) ?_
    refine lv_aload_n C.1 C.2.1 dX11_hoursOf_95 rfl (lv_at hl 1 rfl) ?_
    refine gf_X11_37 C hw (hY 100 11 rfl) dX11_hoursOf_96 ?_
    refine W.eq (g2 := F0 m 99 ls [.ref (E.1 108), .int t0, .int x5]) rfl ?_
    refine lv_iconst (v := 4) C.1 C.2.1 dX11_hoursOf_99 (by decide) ?_
    refine lv_iload C.1 C.2.1 dX11_hoursOf_100 (lv_at hl 8 rfl) ?_
    refine lv_imul C.1 C.2.1 dX11_hoursOf_102 ?_
    refine lv_iconst (v := 3) C.1 C.2.1 dX11_hoursOf_103 (by decide) ?_
    refine lv_iadd C.1 C.2.1 dX11_hoursOf_104 ?_
    obtain ⟨hc2, hf⟩ := ea_ck_s hf
    refine ea_iald C hw (show ea_ok ids 108 20 from ok_11_18 (hY 100 11 rfl)) hc2 dX11_hoursOf_105 ?_
    refine lv_imul C.1 C.2.1 dX11_hoursOf_106 ?_
    refine lv_bipush (v := 100) C.1 C.2.1 dX11_hoursOf_107 (by decide) ?_
    refine lv_idiv C.1 C.2.1 dX11_hoursOf_109 (by decide) ?_
    exact wX11_hoursOf_110 C hY hk9 _ _ _ _ _ _ _ _ _ _ _ _ hf hw (lv_sub hl [1, 2, 3, 4, 5, 7, 9] rfl)
  · replace hf := ea_if_t hc1 hf
    refine lv_iload C.1 C.2.1 dX11_hoursOf_88 (lv_at hl 0 rfl) ?_
    refine lv_goto (tgt := 110) C.1 C.2.1 dX11_hoursOf_90 (by decide) ?_
    exact wX11_hoursOf_110 C hY hk9 _ _ _ _ _ _ _ _ _ _ _ _ hf hw (lv_sub hl [1, 2, 3, 4, 5, 7, 9] rfl)
set_option maxHeartbeats 4000000 in
set_option maxRecDepth 20000 in
theorem wX11_hoursOf_57 (C : ea_C p s m args meth cd cX11_hoursOf 12 (some .int) RX11) (hY : ea_Y ids) {k9 : Int32 → Int32 → Int32 → Int32 → Int32 → Int32 → Int32 → eM → Option (Int32 × eM)} (hk9 : ∀ (x1 : Int32) (x2 : Int32) (x3 : Int32) (x4 : Int32) (x5 : Int32) (x6 : Int32) (x7 : Int32) (M : eM) (H : Heap) (locs : List Loc) (ls : Array Slot), k9 x1 x2 x3 x4 x5 x6 x7 M = some res → ea_w E ids M s H locs → lv_has ls 12 [(0, .ref (E.1 100)), (1, .int x1), (2, .int x2), (3, .int x3), (4, .int x4), (5, .int x5), (6, .int x6), (7, .int x7)] → W p l e (ea_rm 1 23) s m args below meth cd H locs 0 0 (MQ below (ea_Qi E ids res) args s 0 0 (ea_Ad E ids)) (F0 m 9 ls [])) : ∀ (x1 : Int32) (x2 : Int32) (x3 : Int32) (x4 : Int32) (x5 : Int32) (x7 : Int32) (x8 : Int32) (x9 : Int32) (t0 : Int32) (t1 : Int32) (M : eM) (H : Heap) (locs : List Loc) (ls : Array Slot), fX11_hoursOf_57 k9 x1 x2 x3 x4 x5 x7 x8 x9 t0 t1 M = some res → ea_w E ids M s H locs → lv_has ls 12 [(0, .ref (E.1 100)), (1, .int x1), (2, .int x2), (3, .int x3), (4, .int x4), (5, .int x5), (7, .int x7), (8, .int x8), (9, .int x9)] → W p l e (ea_rm 1 23) s m args below meth cd H locs 0 0 (MQ below (ea_Qi E ids res) args s 0 0 (ea_Ad E ids)) (F0 m 57 ls [.int t0, .int t1]) := by
  intro x1 x2 x3 x4 x5 x7 x8 x9 t0 t1 M H locs ls hf  hw hl
  replace hf := (fX11_hoursOf_57.eq_1 ..).symm.trans hf
  refine lv_isub C.1 C.2.1 dX11_hoursOf_57 ?_
  refine lv_istore (lv' := [(10, .int (t1 - t0)), (0, .ref (E.1 100)), (1, .int x1), (2, .int x2), (3, .int x3), (4, .int x4), (5, .int x5), (7, .int x7), (8, .int x8), (9, .int x9)]) C.1 C.2.1 dX11_hoursOf_58 hl (by decide) rfl (fun ls hl => ?_)
  refine lv_iload C.1 C.2.1 dX11_hoursOf_60 (lv_at hl 0 rfl) ?_
  refine lv_if_le (tgt := 78) C.1 C.2.1 dX11_hoursOf_62 (by decide) (fun hc1 => ?_) (fun hc1 => ?_)
  · replace hf := ea_if_t hc1 hf
    refine lv_iconst (v := 0) C.1 C.2.1 dX11_hoursOf_78 (by decide) ?_
    exact wX11_hoursOf_79 C hY hk9 _ _ _ _ _ _ _ _ _ _ _ _ _ hf hw (lv_sub hl [1, 2, 3, 4, 5, 6, 7, 8, 9] rfl)
  · replace hf := ea_if_f hc1 hf
    refine lv_iload C.1 C.2.1 dX11_hoursOf_65 (lv_at hl 0 rfl) ?_
    refine lv_aload_n C.1 C.2.1 dX11_hoursOf_67 rfl (lv_at hl 1 rfl) ?_
    refine lv_iload C.1 C.2.1 dX11_hoursOf_68 (lv_at hl 8 rfl) ?_
    refine lv_iload_n C.1 C.2.1 dX11_hoursOf_70 rfl (lv_at hl 3 rfl) ?_
    obtain ⟨r3, M4, he2, hf⟩ := ea_ci_s hf
    refine ea_runi2 hw (cl_X11_241 C hw (hY 100 11 rfl) (As := [.int x8, .int x2]) (rest := [.int (t1 - t0)]) (mX11_lightAt (l := l) (E := E) (ids := ids) hY he2) (by decide) rfl hl.1 rfl (Nat.le_of_ble_eq_true rfl) dX11_hoursOf_71 ⟨Nat.le_refl _, Nat.le_refl _⟩) (fun H locs hw => ?_)
    refine lv_imul C.1 C.2.1 dX11_hoursOf_74 ?_
    refine lv_goto (tgt := 79) C.1 C.2.1 dX11_hoursOf_75 (by decide) ?_
    exact wX11_hoursOf_79 C hY hk9 _ _ _ _ _ _ _ _ _ _ _ _ _ hf hw (lv_sub hl [1, 2, 3, 4, 5, 6, 7, 8, 9] rfl)
set_option maxHeartbeats 4000000 in
set_option maxRecDepth 20000 in
theorem wX11_hoursOf_9 (C : ea_C p s m args meth cd cX11_hoursOf 12 (some .int) RX11) (hY : ea_Y ids) : ∀ (n : Nat) (x1 : Int32) (x2 : Int32) (x3 : Int32) (x4 : Int32) (x5 : Int32) (x6 : Int32) (x7 : Int32) (M : eM) (H : Heap) (locs : List Loc) (ls : Array Slot), fX11_hoursOf_9 n x1 x2 x3 x4 x5 x6 x7 M = some res → ea_w E ids M s H locs → lv_has ls 12 [(0, .ref (E.1 100)), (1, .int x1), (2, .int x2), (3, .int x3), (4, .int x4), (5, .int x5), (6, .int x6), (7, .int x7)] → W p l e (ea_rm 1 23) s m args below meth cd H locs 0 0 (MQ below (ea_Qi E ids res) args s 0 0 (ea_Ad E ids)) (F0 m 9 ls []) := by
  intro n
  induction n with
  | zero => intro x1 x2 x3 x4 x5 x6 x7 M H locs ls hf; cases hf
  | succ n ih =>
    intro x1 x2 x3 x4 x5 x6 x7 M H locs ls hf  hw hl
    replace hf := (fX11_hoursOf_9.eq_2 ..).symm.trans hf
    refine lv_iload C.1 C.2.1 dX11_hoursOf_9 (lv_at hl 7 rfl) ?_
    refine lv_aload_n C.1 C.2.1 dX11_hoursOf_11 rfl (lv_at hl 0 rfl) ?_
    refine gf_X11_34 C hw (hY 100 11 rfl) dX11_hoursOf_12 ?_
    refine W.eq (g2 := F0 m 15 ls [.ref (E.1 107), .int x7]) rfl ?_
    refine lv_iload_n C.1 C.2.1 dX11_hoursOf_15 rfl (lv_at hl 1 rfl) ?_
    obtain ⟨hc1, hf⟩ := ea_ck_s hf
    refine ea_iald C hw (show ea_ok ids 107 20 from ok_11_17 (hY 100 11 rfl)) hc1 dX11_hoursOf_16 ?_
    refine lv_icmp_ge (tgt := 123) C.1 C.2.1 dX11_hoursOf_17 (by decide) (fun hc2 => ?_) (fun hc2 => ?_)
    · replace hf := ea_if_t hc2 hf
      refine lv_iload C.1 C.2.1 dX11_hoursOf_123 (lv_at hl 5 rfl) ?_
      exact ea_iret C hw hf dX11_hoursOf_125
    · replace hf := ea_if_f hc2 hf
      refine lv_bipush (v := 6) C.1 C.2.1 dX11_hoursOf_20 (by decide) ?_
      refine lv_iload_n C.1 C.2.1 dX11_hoursOf_22 rfl (lv_at hl 1 rfl) ?_
      refine lv_imul C.1 C.2.1 dX11_hoursOf_23 ?_
      refine lv_iload C.1 C.2.1 dX11_hoursOf_24 (lv_at hl 7 rfl) ?_
      refine lv_iadd C.1 C.2.1 dX11_hoursOf_26 ?_
      refine lv_istore (lv' := [(8, .int (((6 : Int32) * x1) + x7)), (0, .ref (E.1 100)), (1, .int x1), (2, .int x2), (3, .int x3), (4, .int x4), (5, .int x5), (6, .int x6), (7, .int x7)]) C.1 C.2.1 dX11_hoursOf_27 hl (by decide) rfl (fun ls hl => ?_)
      refine lv_iload C.1 C.2.1 dX11_hoursOf_29 (lv_at hl 7 rfl) ?_
      refine lv_aload_n C.1 C.2.1 dX11_hoursOf_31 rfl (lv_at hl 1 rfl) ?_
      refine gf_X11_37 C hw (hY 100 11 rfl) dX11_hoursOf_32 ?_
      refine W.eq (g2 := F0 m 35 ls [.ref (E.1 108), .int x6]) rfl ?_
      refine lv_iconst (v := 4) C.1 C.2.1 dX11_hoursOf_35 (by decide) ?_
      refine lv_iload C.1 C.2.1 dX11_hoursOf_36 (lv_at hl 0 rfl) ?_
      refine lv_imul C.1 C.2.1 dX11_hoursOf_38 ?_
      obtain ⟨hc3, hf⟩ := ea_ck_s hf
      refine ea_iald C hw (show ea_ok ids 108 20 from ok_11_18 (hY 100 11 rfl)) hc3 dX11_hoursOf_39 ?_
      refine lv_iadd C.1 C.2.1 dX11_hoursOf_40 ?_
      obtain ⟨y4, ey5, hf⟩ := ea_lt_s hf
      refine ea_topi ey5 ?_
      refine lv_istore (lv' := [(9, .int y4), (8, .int (((6 : Int32) * x1) + x7)), (0, .ref (E.1 100)), (1, .int x1), (2, .int x2), (3, .int x3), (4, .int x4), (5, .int x5), (6, .int x6), (7, .int x7)]) C.1 C.2.1 dX11_hoursOf_41 hl (by decide) rfl (fun ls hl => ?_)
      refine lv_iload C.1 C.2.1 dX11_hoursOf_43 (lv_at hl 0 rfl) ?_
      refine lv_iload_n C.1 C.2.1 dX11_hoursOf_45 rfl (lv_at hl 5 rfl) ?_
      refine lv_iload C.1 C.2.1 dX11_hoursOf_46 (lv_at hl 8 rfl) ?_
      refine lv_icmp_le (tgt := 55) C.1 C.2.1 dX11_hoursOf_48 (by decide) (fun hc6 => ?_) (fun hc6 => ?_)
      · replace hf := ea_if_t hc6 hf
        refine lv_iload C.1 C.2.1 dX11_hoursOf_55 (lv_at hl 8 rfl) ?_
        exact wX11_hoursOf_57 C hY ih _ _ _ _ _ _ _ _ _ _ _ _ _ _ hf hw (lv_sub hl [2, 3, 4, 5, 6, 7, 9, 1, 0] rfl)
      · replace hf := ea_if_f hc6 hf
        refine lv_iload_n C.1 C.2.1 dX11_hoursOf_51 rfl (lv_at hl 5 rfl) ?_
        refine lv_goto (tgt := 57) C.1 C.2.1 dX11_hoursOf_52 (by decide) ?_
        exact wX11_hoursOf_57 C hY ih _ _ _ _ _ _ _ _ _ _ _ _ _ _ hf hw (lv_sub hl [2, 3, 4, 5, 6, 7, 9, 1, 0] rfl)
set_option maxHeartbeats 4000000 in
set_option maxRecDepth 20000 in
theorem wX11_hoursOf_0 (C : ea_C p s m args meth cd cX11_hoursOf 12 (some .int) RX11) (hY : ea_Y ids) : ∀ (x1 : Int32) (x2 : Int32) (x3 : Int32) (x4 : Int32) (M : eM) (H : Heap) (locs : List Loc) (ls : Array Slot), fX11_hoursOf_0 x1 x2 x3 x4 M = some res → ea_w E ids M s H locs → lv_has ls 12 [(0, .ref (E.1 100)), (1, .int x1), (2, .int x2), (3, .int x3), (4, .int x4)] → W p l e (ea_rm 1 23) s m args below meth cd H locs 0 0 (MQ below (ea_Qi E ids res) args s 0 0 (ea_Ad E ids)) (F0 m 0 ls []) := by
  intro x1 x2 x3 x4 M H locs ls hf  hw hl
  replace hf := (fX11_hoursOf_0.eq_1 ..).symm.trans hf
  refine lv_iconst (v := 0) C.1 C.2.1 dX11_hoursOf_0 (by decide) ?_
  refine lv_istore (lv' := [(5, .int (0 : Int32)), (0, .ref (E.1 100)), (1, .int x1), (2, .int x2), (3, .int x3), (4, .int x4)]) C.1 C.2.1 dX11_hoursOf_1 hl (by decide) rfl (fun ls hl => ?_)
  refine lv_iconst (v := 0) C.1 C.2.1 dX11_hoursOf_3 (by decide) ?_
  refine lv_istore (lv' := [(6, .int (0 : Int32)), (5, .int (0 : Int32)), (0, .ref (E.1 100)), (1, .int x1), (2, .int x2), (3, .int x3), (4, .int x4)]) C.1 C.2.1 dX11_hoursOf_4 hl (by decide) rfl (fun ls hl => ?_)
  refine lv_iconst (v := 0) C.1 C.2.1 dX11_hoursOf_6 (by decide) ?_
  refine lv_istore (lv' := [(7, .int (0 : Int32)), (6, .int (0 : Int32)), (5, .int (0 : Int32)), (0, .ref (E.1 100)), (1, .int x1), (2, .int x2), (3, .int x3), (4, .int x4)]) C.1 C.2.1 dX11_hoursOf_7 hl (by decide) rfl (fun ls hl => ?_)
  exact wX11_hoursOf_9 C hY ea_N _ _ _ _ _ _ _ _ _ _ _ hf hw (lv_sub hl [3, 4, 5, 6, 7, 2, 1, 0] rfl)
set_option maxHeartbeats 4000000 in
set_option maxRecDepth 20000 in
theorem mX11_hoursOf {l : Launch} {E : eE} {ids : List Nat} (hY : ea_Y ids) {x1 : Int32} {x2 : Int32} {x3 : Int32} {x4 : Int32} {M : eM} {res : Int32 × eM} (hf : fX11_hoursOf x1 x2 x3 x4 M = some res) : ea_Mi l yX11_hoursOf cX11_hoursOf 12 (some .int) 1 23 E ids [.ref (E.1 100), .int x1, .int x2, .int x3, .int x4] M res := by
  refine ea_goi (by decide) (Nat.le_of_ble_eq_true rfl) wc_X11_hoursOf ?_
  intro p e s m below meth cd ls C hw hl
  exact wX11_hoursOf_0 C hY _ _ _ _ _ _ _ _ hf hw hl
end SX11_hoursOf

def fX11_plain_0 (x0 : Int32) (M : eM) : Option (Int32 × eM) := if 0 ≤ x0 then (some (x0, M)) else (some (-x0, M))
def fX11_plain (x0 : Int32) (M : eM) : Option (Int32 × eM) := fX11_plain_0 x0 M
section SX11_plain
variable {p : Program} {l : Launch} {e : Env} {s : State} {m : MethodId} {args : Array Value} {below : List Frame} {meth : Method} {cd : Code} {E : eE} {ids : List Nat} {res : Int32 × eM}
set_option maxHeartbeats 4000000 in
set_option maxRecDepth 20000 in
theorem wX11_plain_0 (C : ea_C p s m args meth cd cX11_plain 1 (some .int) RX11) (hY : ea_Y ids) : ∀ (x0 : Int32) (M : eM) (H : Heap) (locs : List Loc) (ls : Array Slot), fX11_plain_0 x0 M = some res → ea_w E ids M s H locs → lv_has ls 1 [(0, .int x0)] → W p l e (ea_rm 0 0) s m args below meth cd H locs 0 0 (MQ below (ea_Qi E ids res) args s 0 0 (ea_Ad E ids)) (F0 m 0 ls []) := by
  intro x0 M H locs ls hf  hw hl
  replace hf := (fX11_plain_0.eq_1 ..).symm.trans hf
  refine lv_iload_n C.1 C.2.1 dX11_plain_0 rfl (lv_at hl 0 rfl) ?_
  refine lv_if_ge (tgt := 9) C.1 C.2.1 dX11_plain_1 (by decide) (fun hc1 => ?_) (fun hc1 => ?_)
  · replace hf := ea_if_t hc1 hf
    refine lv_iload_n C.1 C.2.1 dX11_plain_9 rfl (lv_at hl 0 rfl) ?_
    exact ea_iret C hw hf dX11_plain_10
  · replace hf := ea_if_f hc1 hf
    refine lv_iload_n C.1 C.2.1 dX11_plain_4 rfl (lv_at hl 0 rfl) ?_
    refine lv_ineg C.1 C.2.1 dX11_plain_5 ?_
    refine lv_goto (tgt := 10) C.1 C.2.1 dX11_plain_6 (by decide) ?_
    exact ea_iret C hw hf dX11_plain_10
set_option maxHeartbeats 4000000 in
set_option maxRecDepth 20000 in
theorem mX11_plain {l : Launch} {E : eE} {ids : List Nat} (hY : ea_Y ids) {x0 : Int32} {M : eM} {res : Int32 × eM} (hf : fX11_plain x0 M = some res) : ea_Mi l yX11_plain cX11_plain 1 (some .int) 0 0 E ids [.int x0] M res := by
  refine ea_goi (by decide) (Nat.le_of_ble_eq_true rfl) wc_X11_plain ?_
  intro p e s m below meth cd ls C hw hl
  exact wX11_plain_0 C hY _ _ _ _ _ hf hw hl
end SX11_plain

def fX11_isSo_15 (k67 : Int32 → Int32 → Int32 → eM → Option (Int32 × eM)) (a2 : Nat) : Nat → Int32 → Int32 → Int32 → Int32 → eM → Option (Int32 × eM)
  | 0, _, _, _, _, _ => none
  | n + 1, x1, x3, x4, x5, M => if (3 : Int32) ≤ x5 then (k67 x1 x3 x4 M) else (ea_ck (ea_ix (x3 + x4) (ea_len a2)) (ea_ci (fX11_colourOf x1 (M.1 a2 (x3 + x4).toNatClampNeg) x5 M) (fun r4 M5 => ea_ck (ea_ix (((3 : Int32) * x4) + x5) (ea_len 118)) (ea_ci (fX11_plain (r4 - (M5.1 118 (((3 : Int32) * x4) + x5).toNatClampNeg)) M5) (fun r8 M9 => if r8 ≤ (M9.1 102 (2 : Int32).toNatClampNeg) then (fX11_isSo_15 k67 a2 n x1 x3 x4 (x5 + (1 : Int32)) M9) else (some ((0 : Int32), M9)))))))
def fX11_isSo_67 (k3 : Int32 → Int32 → Int32 → eM → Option (Int32 × eM)) (a2 : Nat) (x1 : Int32) (x3 : Int32) (x4 : Int32) (M : eM) : Option (Int32 × eM) := k3 x1 x3 (x4 + (1 : Int32)) M
def fX11_isSo_3 (a2 : Nat) : Nat → Int32 → Int32 → Int32 → eM → Option (Int32 × eM)
  | 0, _, _, _, _ => none
  | n + 1, x1, x3, x4, M => if (M.1 100 29) ≤ x4 then (some ((1 : Int32), M)) else (fX11_isSo_15 (fX11_isSo_67 (fX11_isSo_3 a2 n) a2) a2 ea_N x1 x3 x4 (0 : Int32) M)
def fX11_isSo_0 (a2 : Nat) (x1 : Int32) (x3 : Int32) (M : eM) : Option (Int32 × eM) := fX11_isSo_3 a2 ea_N x1 x3 (0 : Int32) M
def fX11_isSo (a2 : Nat) (x1 : Int32) (x3 : Int32) (M : eM) : Option (Int32 × eM) := fX11_isSo_0 a2 x1 x3 M
section SX11_isSo
variable {p : Program} {l : Launch} {e : Env} {s : State} {m : MethodId} {args : Array Value} {below : List Frame} {meth : Method} {cd : Code} {E : eE} {ids : List Nat} {res : Int32 × eM} {a2 : Nat}
set_option maxHeartbeats 4000000 in
set_option maxRecDepth 20000 in
theorem wX11_isSo_15 (C : ea_C p s m args meth cd cX11_isSo 6 (some .boolean) RX11) (hY : ea_Y ids) (ho2 : ea_ok ids a2 20) {k67 : Int32 → Int32 → Int32 → eM → Option (Int32 × eM)} (hk67 : ∀ (x1 : Int32) (x3 : Int32) (x4 : Int32) (M : eM) (H : Heap) (locs : List Loc) (ls : Array Slot), k67 x1 x3 x4 M = some res → ea_w E ids M s H locs → lv_has ls 6 [(0, .ref (E.1 100)), (1, .int x1), (2, .ref (E.1 a2)), (3, .int x3), (4, .int x4)] → W p l e (ea_rm 4 91) s m args below meth cd H locs 0 0 (MQ below (ea_Qi E ids res) args s 0 0 (ea_Ad E ids)) (F0 m 67 ls [])) : ∀ (n : Nat) (x1 : Int32) (x3 : Int32) (x4 : Int32) (x5 : Int32) (M : eM) (H : Heap) (locs : List Loc) (ls : Array Slot), fX11_isSo_15 k67 a2 n x1 x3 x4 x5 M = some res → ea_w E ids M s H locs → lv_has ls 6 [(0, .ref (E.1 100)), (1, .int x1), (2, .ref (E.1 a2)), (3, .int x3), (4, .int x4), (5, .int x5)] → W p l e (ea_rm 4 91) s m args below meth cd H locs 0 0 (MQ below (ea_Qi E ids res) args s 0 0 (ea_Ad E ids)) (F0 m 15 ls []) := by
  intro n
  induction n with
  | zero => intro x1 x3 x4 x5 M H locs ls hf; cases hf
  | succ n ih =>
    intro x1 x3 x4 x5 M H locs ls hf  hw hl
    replace hf := (fX11_isSo_15.eq_2 ..).symm.trans hf
    refine lv_iload C.1 C.2.1 dX11_isSo_15 (lv_at hl 5 rfl) ?_
    refine lv_iconst (v := 3) C.1 C.2.1 dX11_isSo_17 (by decide) ?_
    refine lv_icmp_ge (tgt := 67) C.1 C.2.1 dX11_isSo_18 (by decide) (fun hc1 => ?_) (fun hc1 => ?_)
    · replace hf := ea_if_t hc1 hf
      exact hk67 _ _ _ _ _ _ _ hf hw (lv_sub hl [0, 1, 2, 3, 4] rfl)
    · replace hf := ea_if_f hc1 hf
      refine lv_aload_n C.1 C.2.1 dX11_isSo_21 rfl (lv_at hl 0 rfl) ?_
      refine lv_iload_n C.1 C.2.1 dX11_isSo_22 rfl (lv_at hl 1 rfl) ?_
      refine lv_aload_n C.1 C.2.1 dX11_isSo_23 rfl (lv_at hl 2 rfl) ?_
      refine lv_iload_n C.1 C.2.1 dX11_isSo_24 rfl (lv_at hl 3 rfl) ?_
      refine lv_iload C.1 C.2.1 dX11_isSo_25 (lv_at hl 4 rfl) ?_
      refine lv_iadd C.1 C.2.1 dX11_isSo_27 ?_
      obtain ⟨hc2, hf⟩ := ea_ck_s hf
      refine ea_iald C hw ho2 hc2 dX11_isSo_28 ?_
      refine lv_iload C.1 C.2.1 dX11_isSo_29 (lv_at hl 5 rfl) ?_
      obtain ⟨r4, M5, he3, hf⟩ := ea_ci_s hf
      refine ea_runi2 hw (cl_X11_257 C hw (hY 100 11 rfl) (As := [.int x1, .int (M.1 a2 (x3 + x4).toNatClampNeg), .int x5]) (rest := []) (mX11_colourOf (l := l) (E := E) (ids := ids) hY he3) (by decide) rfl hl.1 rfl (Nat.le_of_ble_eq_true rfl) dX11_isSo_31 ⟨Nat.le_refl _, Nat.le_refl _⟩) (fun H locs hw => ?_)
      refine lv_aload_n C.1 C.2.1 dX11_isSo_34 rfl (lv_at hl 0 rfl) ?_
      refine gf_X11_68 C hw (hY 100 11 rfl) dX11_isSo_35 ?_
      refine W.eq (g2 := F0 m 38 ls [.ref (E.1 118), .int r4]) rfl ?_
      refine lv_iconst (v := 3) C.1 C.2.1 dX11_isSo_38 (by decide) ?_
      refine lv_iload C.1 C.2.1 dX11_isSo_39 (lv_at hl 4 rfl) ?_
      refine lv_imul C.1 C.2.1 dX11_isSo_41 ?_
      refine lv_iload C.1 C.2.1 dX11_isSo_42 (lv_at hl 5 rfl) ?_
      refine lv_iadd C.1 C.2.1 dX11_isSo_44 ?_
      obtain ⟨hc6, hf⟩ := ea_ck_s hf
      refine ea_iald C hw (show ea_ok ids 118 20 from ok_11_32 (hY 100 11 rfl)) hc6 dX11_isSo_45 ?_
      refine lv_isub C.1 C.2.1 dX11_isSo_46 ?_
      obtain ⟨r8, M9, he7, hf⟩ := ea_ci_s hf
      refine ea_runi2 hw (cl_X11_290 C hw (As := [.int (r4 - (M5.1 118 (((3 : Int32) * x4) + x5).toNatClampNeg))]) (rest := []) (mX11_plain (l := l) (E := E) (ids := ids) hY he7) (by decide) rfl hl.1 rfl (Nat.le_of_ble_eq_true rfl) dX11_isSo_47 ⟨Nat.le_refl _, Nat.le_refl _⟩) (fun H locs hw => ?_)
      refine lv_aload_n C.1 C.2.1 dX11_isSo_50 rfl (lv_at hl 0 rfl) ?_
      refine gf_X11_17 C hw (hY 100 11 rfl) dX11_isSo_51 ?_
      refine W.eq (g2 := F0 m 54 ls [.ref (E.1 102), .int r8]) rfl ?_
      refine lv_iconst (v := 2) C.1 C.2.1 dX11_isSo_54 (by decide) ?_
      refine ea_iald C hw (show ea_ok ids 102 20 from ok_11_12 (hY 100 11 rfl)) (by decide) dX11_isSo_55 ?_
      refine lv_icmp_le (tgt := 61) C.1 C.2.1 dX11_isSo_56 (by decide) (fun hc10 => ?_) (fun hc10 => ?_)
      · replace hf := ea_if_t hc10 hf
        refine lv_iinc (v := x5 + (1 : Int32)) (lv' := [(5, .int (x5 + (1 : Int32))), (0, .ref (E.1 100)), (1, .int x1), (2, .ref (E.1 a2)), (3, .int x3), (4, .int x4)]) C.1 C.2.1 dX11_isSo_61 hl (k := 5) rfl rfl (by decide) rfl (fun ls hl => ?_)
        refine lv_goto (tgt := 15) C.1 C.2.1 dX11_isSo_64 (by decide) ?_
        exact ih _ _ _ _ _ _ _ _ hf hw (lv_sub hl [1, 2, 3, 4, 5, 0] rfl)
      · replace hf := ea_if_f hc10 hf
        refine lv_iconst (v := 0) C.1 C.2.1 dX11_isSo_59 (by decide) ?_
        exact ea_zret C hw (by decide) hf dX11_isSo_60
set_option maxHeartbeats 4000000 in
set_option maxRecDepth 20000 in
theorem wX11_isSo_67 (C : ea_C p s m args meth cd cX11_isSo 6 (some .boolean) RX11) (hY : ea_Y ids) (ho2 : ea_ok ids a2 20) {k3 : Int32 → Int32 → Int32 → eM → Option (Int32 × eM)} (hk3 : ∀ (x1 : Int32) (x3 : Int32) (x4 : Int32) (M : eM) (H : Heap) (locs : List Loc) (ls : Array Slot), k3 x1 x3 x4 M = some res → ea_w E ids M s H locs → lv_has ls 6 [(0, .ref (E.1 100)), (1, .int x1), (2, .ref (E.1 a2)), (3, .int x3), (4, .int x4)] → W p l e (ea_rm 4 91) s m args below meth cd H locs 0 0 (MQ below (ea_Qi E ids res) args s 0 0 (ea_Ad E ids)) (F0 m 3 ls [])) : ∀ (x1 : Int32) (x3 : Int32) (x4 : Int32) (M : eM) (H : Heap) (locs : List Loc) (ls : Array Slot), fX11_isSo_67 k3 a2 x1 x3 x4 M = some res → ea_w E ids M s H locs → lv_has ls 6 [(0, .ref (E.1 100)), (1, .int x1), (2, .ref (E.1 a2)), (3, .int x3), (4, .int x4)] → W p l e (ea_rm 4 91) s m args below meth cd H locs 0 0 (MQ below (ea_Qi E ids res) args s 0 0 (ea_Ad E ids)) (F0 m 67 ls []) := by
  intro x1 x3 x4 M H locs ls hf  hw hl
  replace hf := (fX11_isSo_67.eq_1 ..).symm.trans hf
  refine lv_iinc (v := x4 + (1 : Int32)) (lv' := [(4, .int (x4 + (1 : Int32))), (0, .ref (E.1 100)), (1, .int x1), (2, .ref (E.1 a2)), (3, .int x3)]) C.1 C.2.1 dX11_isSo_67 hl (k := 4) rfl rfl (by decide) rfl (fun ls hl => ?_)
  refine lv_goto (tgt := 3) C.1 C.2.1 dX11_isSo_70 (by decide) ?_
  exact hk3 _ _ _ _ _ _ _ hf hw (lv_sub hl [1, 2, 3, 4, 0] rfl)
set_option maxHeartbeats 4000000 in
set_option maxRecDepth 20000 in
theorem wX11_isSo_3 (C : ea_C p s m args meth cd cX11_isSo 6 (some .boolean) RX11) (hY : ea_Y ids) (ho2 : ea_ok ids a2 20) : ∀ (n : Nat) (x1 : Int32) (x3 : Int32) (x4 : Int32) (M : eM) (H : Heap) (locs : List Loc) (ls : Array Slot), fX11_isSo_3 a2 n x1 x3 x4 M = some res → ea_w E ids M s H locs → lv_has ls 6 [(0, .ref (E.1 100)), (1, .int x1), (2, .ref (E.1 a2)), (3, .int x3), (4, .int x4)] → W p l e (ea_rm 4 91) s m args below meth cd H locs 0 0 (MQ below (ea_Qi E ids res) args s 0 0 (ea_Ad E ids)) (F0 m 3 ls []) := by
  intro n
  induction n with
  | zero => intro x1 x3 x4 M H locs ls hf; cases hf
  | succ n ih =>
    intro x1 x3 x4 M H locs ls hf  hw hl
    replace hf := (fX11_isSo_3.eq_2 ..).symm.trans hf
    refine lv_iload C.1 C.2.1 dX11_isSo_3 (lv_at hl 4 rfl) ?_
    refine lv_aload_n C.1 C.2.1 dX11_isSo_5 rfl (lv_at hl 0 rfl) ?_
    refine gf_X11_283 C hw (hY 100 11 rfl) dX11_isSo_6 ?_
    refine lv_icmp_ge (tgt := 73) C.1 C.2.1 dX11_isSo_9 (by decide) (fun hc1 => ?_) (fun hc1 => ?_)
    · replace hf := ea_if_t hc1 hf
      refine lv_iconst (v := 1) C.1 C.2.1 dX11_isSo_73 (by decide) ?_
      exact ea_zret C hw (by decide) hf dX11_isSo_74
    · replace hf := ea_if_f hc1 hf
      refine lv_iconst (v := 0) C.1 C.2.1 dX11_isSo_12 (by decide) ?_
      refine lv_istore (lv' := [(5, .int (0 : Int32)), (0, .ref (E.1 100)), (1, .int x1), (2, .ref (E.1 a2)), (3, .int x3), (4, .int x4)]) C.1 C.2.1 dX11_isSo_13 hl (by decide) rfl (fun ls hl => ?_)
      exact wX11_isSo_15 C hY ho2 (wX11_isSo_67 C hY ho2 ih) ea_N _ _ _ _ _ _ _ _ hf hw (lv_sub hl [1, 2, 3, 4, 5, 0] rfl)
set_option maxHeartbeats 4000000 in
set_option maxRecDepth 20000 in
theorem wX11_isSo_0 (C : ea_C p s m args meth cd cX11_isSo 6 (some .boolean) RX11) (hY : ea_Y ids) (ho2 : ea_ok ids a2 20) : ∀ (x1 : Int32) (x3 : Int32) (M : eM) (H : Heap) (locs : List Loc) (ls : Array Slot), fX11_isSo_0 a2 x1 x3 M = some res → ea_w E ids M s H locs → lv_has ls 6 [(0, .ref (E.1 100)), (1, .int x1), (2, .ref (E.1 a2)), (3, .int x3)] → W p l e (ea_rm 4 91) s m args below meth cd H locs 0 0 (MQ below (ea_Qi E ids res) args s 0 0 (ea_Ad E ids)) (F0 m 0 ls []) := by
  intro x1 x3 M H locs ls hf  hw hl
  replace hf := (fX11_isSo_0.eq_1 ..).symm.trans hf
  refine lv_iconst (v := 0) C.1 C.2.1 dX11_isSo_0 (by decide) ?_
  refine lv_istore (lv' := [(4, .int (0 : Int32)), (0, .ref (E.1 100)), (1, .int x1), (2, .ref (E.1 a2)), (3, .int x3)]) C.1 C.2.1 dX11_isSo_1 hl (by decide) rfl (fun ls hl => ?_)
  exact wX11_isSo_3 C hY ho2 ea_N _ _ _ _ _ _ _ hf hw (lv_sub hl [1, 2, 3, 4, 0] rfl)
set_option maxHeartbeats 4000000 in
set_option maxRecDepth 20000 in
theorem mX11_isSo {l : Launch} {E : eE} {ids : List Nat} (hY : ea_Y ids) {x1 : Int32} {a2 : Nat} {x3 : Int32} (ho2 : ea_ok ids a2 20) {M : eM} {res : Int32 × eM} (hf : fX11_isSo a2 x1 x3 M = some res) : ea_Mi l yX11_isSo cX11_isSo 6 (some .boolean) 4 91 E ids [.ref (E.1 100), .int x1, .ref (E.1 a2), .int x3] M res := by
  refine ea_goi (by decide) (Nat.le_of_ble_eq_true rfl) wc_X11_isSo ?_
  intro p e s m below meth cd ls C hw hl
  exact wX11_isSo_0 C hY ho2 _ _ _ _ _ _ hf hw hl
end SX11_isSo

def fX11_yearAt_0 (x1 : Int32) (M : eM) : Option (Int32 × eM) := if x1 = 0 then (some ((0 : Int32), M)) else (ea_ck (ea_ix (((11 : Int32) + x1) - (1 : Int32)) (ea_len 102)) (some (M.1 102 (((11 : Int32) + x1) - (1 : Int32)).toNatClampNeg, M)))
def fX11_yearAt (x1 : Int32) (M : eM) : Option (Int32 × eM) := fX11_yearAt_0 x1 M
section SX11_yearAt
variable {p : Program} {l : Launch} {e : Env} {s : State} {m : MethodId} {args : Array Value} {below : List Frame} {meth : Method} {cd : Code} {E : eE} {ids : List Nat} {res : Int32 × eM}
set_option maxHeartbeats 4000000 in
set_option maxRecDepth 20000 in
theorem wX11_yearAt_0 (C : ea_C p s m args meth cd cX11_yearAt 2 (some .int) RX11) (hY : ea_Y ids) : ∀ (x1 : Int32) (M : eM) (H : Heap) (locs : List Loc) (ls : Array Slot), fX11_yearAt_0 x1 M = some res → ea_w E ids M s H locs → lv_has ls 2 [(0, .ref (E.1 100)), (1, .int x1)] → W p l e (ea_rm 0 0) s m args below meth cd H locs 0 0 (MQ below (ea_Qi E ids res) args s 0 0 (ea_Ad E ids)) (F0 m 0 ls []) := by
  intro x1 M H locs ls hf  hw hl
  replace hf := (fX11_yearAt_0.eq_1 ..).symm.trans hf
  refine lv_iload_n C.1 C.2.1 dX11_yearAt_0 rfl (lv_at hl 1 rfl) ?_
  refine lv_if_ne (tgt := 8) C.1 C.2.1 dX11_yearAt_1 (by decide) (fun hc1 => ?_) (fun hc1 => ?_)
  · replace hf := ea_if_f hc1 hf
    refine lv_aload_n C.1 C.2.1 dX11_yearAt_8 rfl (lv_at hl 0 rfl) ?_
    refine gf_X11_17 C hw (hY 100 11 rfl) dX11_yearAt_9 ?_
    refine W.eq (g2 := F0 m 12 ls [.ref (E.1 102)]) rfl ?_
    refine lv_bipush (v := 11) C.1 C.2.1 dX11_yearAt_12 (by decide) ?_
    refine lv_iload_n C.1 C.2.1 dX11_yearAt_14 rfl (lv_at hl 1 rfl) ?_
    refine lv_iadd C.1 C.2.1 dX11_yearAt_15 ?_
    refine lv_iconst (v := 1) C.1 C.2.1 dX11_yearAt_16 (by decide) ?_
    refine lv_isub C.1 C.2.1 dX11_yearAt_17 ?_
    obtain ⟨hc2, hf⟩ := ea_ck_s hf
    refine ea_iald C hw (show ea_ok ids 102 20 from ok_11_12 (hY 100 11 rfl)) hc2 dX11_yearAt_18 ?_
    exact ea_iret C hw hf dX11_yearAt_19
  · replace hf := ea_if_t hc1 hf
    refine lv_iconst (v := 0) C.1 C.2.1 dX11_yearAt_4 (by decide) ?_
    refine lv_goto (tgt := 19) C.1 C.2.1 dX11_yearAt_5 (by decide) ?_
    exact ea_iret C hw hf dX11_yearAt_19
set_option maxHeartbeats 4000000 in
set_option maxRecDepth 20000 in
theorem mX11_yearAt {l : Launch} {E : eE} {ids : List Nat} (hY : ea_Y ids) {x1 : Int32} {M : eM} {res : Int32 × eM} (hf : fX11_yearAt x1 M = some res) : ea_Mi l yX11_yearAt cX11_yearAt 2 (some .int) 0 0 E ids [.ref (E.1 100), .int x1] M res := by
  refine ea_goi (by decide) (Nat.le_of_ble_eq_true rfl) wc_X11_yearAt ?_
  intro p e s m below meth cd ls C hw hl
  exact wX11_yearAt_0 C hY _ _ _ _ _ hf hw hl
end SX11_yearAt

def fX11_findFits_34 (k90 : Int32 → Int32 → Int32 → eM → Option (eM)) : Nat → Int32 → Int32 → Int32 → Int32 → eM → Option (eM)
  | 0, _, _, _, _, _ => none
  | n + 1, x2, x4, x5, x6, M => if (M.1 100 29) ≤ x6 then (k90 x2 x4 x5 M) else (ea_ci (fX11_yearAt x5 M) (fun r3 M4 => ea_ck (ea_ix x6 (ea_len 117)) (ea_ci (fX11_hoursOf x2 x4 r3 (M4.1 117 x6.toNatClampNeg) M4) (fun r7 M8 => ea_ck (ea_ix x6 (ea_len 116)) (ea_ck (ea_ix (((22 : Int32) * x5) + x6) (ea_len 121)) (fX11_findFits_34 k90 n x2 x4 x5 (x6 + (1 : Int32)) (ea_pI M8 121 ((((22 : Int32) * x5) + x6).toNatClampNeg) (r7 + (M8.1 116 x6.toNatClampNeg)))))))))
def fX11_findFits_90 (k19 : Int32 → Int32 → Int32 → eM → Option (eM)) (x2 : Int32) (x4 : Int32) (x5 : Int32) (M : eM) : Option (eM) := k19 x2 x4 (x5 + (1 : Int32)) M
def fX11_findFits_19 (k96 : eM → Option (eM)) : Nat → Int32 → Int32 → Int32 → eM → Option (eM)
  | 0, _, _, _, _ => none
  | n + 1, x2, x4, x5, M => if (M.1 102 (7 : Int32).toNatClampNeg) < x5 then (k96 M) else (fX11_findFits_34 (fX11_findFits_90 (fX11_findFits_19 k96 n)) ea_N x2 x4 x5 (0 : Int32) M)
def fX11_findFits_196 (k127 : Int32 → Int32 → Int32 → eM → Option (eM)) (x5 : Int32) (x6 : Int32) (x7 : Int32) (M : eM) : Option (eM) := k127 x5 x6 (x7 + (1 : Int32)) M
def fX11_findFits_127 (k202 : Int32 → Int32 → eM → Option (eM)) : Nat → Int32 → Int32 → Int32 → eM → Option (eM)
  | 0, _, _, _, _ => none
  | n + 1, x5, x6, x7, M => if (M.1 102 (7 : Int32).toNatClampNeg) < x7 then (k202 x5 x6 M) else (ea_ci (fX11_isSo 121 x5 ((22 : Int32) * x7) M) (fun r3 M4 => if r3 = 0 then (fX11_findFits_196 (fX11_findFits_127 k202 n) x5 x6 x7 M4) else (ea_ck (ea_ix (M4.1 100 33) (ea_len 119)) (ea_ci (fX11_yearAt x7 (ea_pI M4 119 ((M4.1 100 33).toNatClampNeg) x5)) (fun r8 M9 => ea_ck (ea_ix ((ea_pI M4 119 ((M4.1 100 33).toNatClampNeg) x5).1 100 33) (ea_len 120)) (fX11_findFits_196 (fX11_findFits_127 k202 n) x5 x6 x7 (ea_pI (ea_pI M9 120 (((ea_pI M4 119 ((M4.1 100 33).toNatClampNeg) x5).1 100 33).toNatClampNeg) r8) 100 33 (((ea_pI M9 120 (((ea_pI M4 119 ((M4.1 100 33).toNatClampNeg) x5).1 100 33).toNatClampNeg) r8).1 100 33) + (1 : Int32)))))))))
def fX11_findFits_221 (k109 : Int32 → eM → Option (eM)) (x5 : Int32) (t0 : Int32) (t1 : Int32) (M : eM) : Option (eM) := k109 (x5 + (1 : Int32)) (ea_pI M 100 34 (t1 + t0))
def fX11_findFits_202 (k109 : Int32 → eM → Option (eM)) (x5 : Int32) (x6 : Int32) (M : eM) : Option (eM) := if (M.1 100 33) ≤ x6 then (fX11_findFits_221 k109 x5 (0 : Int32) (M.1 100 34) M) else (fX11_findFits_221 k109 x5 (1 : Int32) (M.1 100 34) M)
def fX11_findFits_109 : Nat → Int32 → eM → Option (eM)
  | 0, _, _ => none
  | n + 1, x5, M => if (M.1 100 22) ≤ x5 then (some M) else (fX11_findFits_127 (fX11_findFits_202 (fX11_findFits_109 n)) ea_N x5 (M.1 100 33) (0 : Int32) M)
def fX11_findFits_96 (M : eM) : Option (eM) := fX11_findFits_109 ea_N (0 : Int32) (ea_pI (ea_pI M 100 33 (0 : Int32)) 100 34 (0 : Int32))
def fX11_findFits_0 (x1 : Int32) (x2 : Int32) (x3 : Int32) (M : eM) : Option (eM) := ea_cv (fX11_findWords x1 x3 M) (fun M2 => ea_ck (ea_nz (M2.1 102 (0 : Int32).toNatClampNeg)) (ea_lt (x1 - x1 / (M2.1 102 (0 : Int32).toNatClampNeg) * (M2.1 102 (0 : Int32).toNatClampNeg)) (fun y4 => fX11_findFits_19 (fX11_findFits_96) ea_N x2 y4 (0 : Int32) M2)))
def fX11_findFits (x1 : Int32) (x2 : Int32) (x3 : Int32) (M : eM) : Option (eM) := fX11_findFits_0 x1 x2 x3 M
section SX11_findFits
variable {p : Program} {l : Launch} {e : Env} {s : State} {m : MethodId} {args : Array Value} {below : List Frame} {meth : Method} {cd : Code} {E : eE} {ids : List Nat} {res : eM}
set_option maxHeartbeats 4000000 in
set_option maxRecDepth 20000 in
theorem wX11_findFits_34 (C : ea_C p s m args meth cd cX11_findFits 8 none RX11) (hY : ea_Y ids) {k90 : Int32 → Int32 → Int32 → eM → Option (eM)} (hk90 : ∀ (x2 : Int32) (x4 : Int32) (x5 : Int32) (M : eM) (H : Heap) (locs : List Loc) (ls : Array Slot), k90 x2 x4 x5 M = some res → ea_w E ids M s H locs → lv_has ls 8 [(0, .ref (E.1 100)), (2, .int x2), (4, .int x4), (5, .int x5)] → W p l e (ea_rm 5 116) s m args below meth cd H locs 0 0 (MQ below (ea_Qv E ids res) args s 0 0 (ea_Ad E ids)) (F0 m 90 ls [])) : ∀ (n : Nat) (x2 : Int32) (x4 : Int32) (x5 : Int32) (x6 : Int32) (M : eM) (H : Heap) (locs : List Loc) (ls : Array Slot), fX11_findFits_34 k90 n x2 x4 x5 x6 M = some res → ea_w E ids M s H locs → lv_has ls 8 [(0, .ref (E.1 100)), (2, .int x2), (4, .int x4), (5, .int x5), (6, .int x6)] → W p l e (ea_rm 5 116) s m args below meth cd H locs 0 0 (MQ below (ea_Qv E ids res) args s 0 0 (ea_Ad E ids)) (F0 m 34 ls []) := by
  intro n
  induction n with
  | zero => intro x2 x4 x5 x6 M H locs ls hf; cases hf
  | succ n ih =>
    intro x2 x4 x5 x6 M H locs ls hf  hw hl
    replace hf := (fX11_findFits_34.eq_2 ..).symm.trans hf
    refine lv_iload C.1 C.2.1 dX11_findFits_34 (lv_at hl 4 rfl) ?_
    refine lv_aload_n C.1 C.2.1 dX11_findFits_36 rfl (lv_at hl 0 rfl) ?_
    refine gf_X11_283 C hw (hY 100 11 rfl) dX11_findFits_37 ?_
    refine lv_icmp_ge (tgt := 90) C.1 C.2.1 dX11_findFits_40 (by decide) (fun hc1 => ?_) (fun hc1 => ?_)
    · replace hf := ea_if_t hc1 hf
      exact hk90 _ _ _ _ _ _ _ hf hw (lv_sub hl [0, 1, 2, 3] rfl)
    · replace hf := ea_if_f hc1 hf
      refine lv_aload_n C.1 C.2.1 dX11_findFits_43 rfl (lv_at hl 0 rfl) ?_
      refine gf_X11_77 C hw (hY 100 11 rfl) dX11_findFits_44 ?_
      refine W.eq (g2 := F0 m 47 ls [.ref (E.1 121)]) rfl ?_
      refine lv_bipush (v := 22) C.1 C.2.1 dX11_findFits_47 (by decide) ?_
      refine lv_iload C.1 C.2.1 dX11_findFits_49 (lv_at hl 3 rfl) ?_
      refine lv_imul C.1 C.2.1 dX11_findFits_51 ?_
      refine lv_iload C.1 C.2.1 dX11_findFits_52 (lv_at hl 4 rfl) ?_
      refine lv_iadd C.1 C.2.1 dX11_findFits_54 ?_
      refine lv_aload_n C.1 C.2.1 dX11_findFits_55 rfl (lv_at hl 0 rfl) ?_
      refine lv_iload_n C.1 C.2.1 dX11_findFits_56 rfl (lv_at hl 1 rfl) ?_
      refine lv_iload C.1 C.2.1 dX11_findFits_57 (lv_at hl 2 rfl) ?_
      refine lv_aload_n C.1 C.2.1 dX11_findFits_59 rfl (lv_at hl 0 rfl) ?_
      refine lv_iload C.1 C.2.1 dX11_findFits_60 (lv_at hl 3 rfl) ?_
      obtain ⟨r3, M4, he2, hf⟩ := ea_ci_s hf
      refine ea_runi2 hw (cl_X11_297 C hw (hY 100 11 rfl) (As := [.int x5]) (rest := [.int x4, .int x2, .ref (E.1 100), .int (((22 : Int32) * x5) + x6), .ref (E.1 121)]) (mX11_yearAt (l := l) (E := E) (ids := ids) hY he2) (by decide) rfl hl.1 rfl (Nat.le_of_ble_eq_true rfl) dX11_findFits_62 ⟨Nat.le_refl _, Nat.le_refl _⟩) (fun H locs hw => ?_)
      refine lv_aload_n C.1 C.2.1 dX11_findFits_65 rfl (lv_at hl 0 rfl) ?_
      refine gf_X11_65 C hw (hY 100 11 rfl) dX11_findFits_66 ?_
      refine W.eq (g2 := F0 m 69 ls [.ref (E.1 117), .int r3, .int x4, .int x2, .ref (E.1 100), .int (((22 : Int32) * x5) + x6), .ref (E.1 121)]) rfl ?_
      refine lv_iload C.1 C.2.1 dX11_findFits_69 (lv_at hl 4 rfl) ?_
      obtain ⟨hc5, hf⟩ := ea_ck_s hf
      refine ea_iald C hw (show ea_ok ids 117 20 from ok_11_31 (hY 100 11 rfl)) hc5 dX11_findFits_71 ?_
      obtain ⟨r7, M8, he6, hf⟩ := ea_ci_s hf
      refine ea_runi2 hw (cl_X11_244 C hw (hY 100 11 rfl) (As := [.int x2, .int x4, .int r3, .int (M4.1 117 x6.toNatClampNeg)]) (rest := [.int (((22 : Int32) * x5) + x6), .ref (E.1 121)]) (mX11_hoursOf (l := l) (E := E) (ids := ids) hY he6) (by decide) rfl hl.1 rfl (Nat.le_of_ble_eq_true rfl) dX11_findFits_72 ⟨Nat.le_refl _, Nat.le_refl _⟩) (fun H locs hw => ?_)
      refine lv_aload_n C.1 C.2.1 dX11_findFits_75 rfl (lv_at hl 0 rfl) ?_
      refine gf_X11_62 C hw (hY 100 11 rfl) dX11_findFits_76 ?_
      refine W.eq (g2 := F0 m 79 ls [.ref (E.1 116), .int r7, .int (((22 : Int32) * x5) + x6), .ref (E.1 121)]) rfl ?_
      refine lv_iload C.1 C.2.1 dX11_findFits_79 (lv_at hl 4 rfl) ?_
      obtain ⟨hc9, hf⟩ := ea_ck_s hf
      refine ea_iald C hw (show ea_ok ids 116 20 from ok_11_30 (hY 100 11 rfl)) hc9 dX11_findFits_81 ?_
      refine lv_iadd C.1 C.2.1 dX11_findFits_82 ?_
      obtain ⟨hc10, hf⟩ := ea_ck_s hf
      refine ea_iast C hw (show ea_ok ids 121 20 from ok_11_37 (hY 100 11 rfl)) hc10 dX11_findFits_83 (fun H locs hw => ?_)
      refine lv_iinc (v := x6 + (1 : Int32)) (lv' := [(6, .int (x6 + (1 : Int32))), (0, .ref (E.1 100)), (2, .int x2), (4, .int x4), (5, .int x5)]) C.1 C.2.1 dX11_findFits_84 hl (k := 4) rfl rfl (by decide) rfl (fun ls hl => ?_)
      refine lv_goto (tgt := 34) C.1 C.2.1 dX11_findFits_87 (by decide) ?_
      exact ih _ _ _ _ _ _ _ _ hf hw (lv_sub hl [1, 2, 3, 4, 0] rfl)
set_option maxHeartbeats 4000000 in
set_option maxRecDepth 20000 in
theorem wX11_findFits_90 (C : ea_C p s m args meth cd cX11_findFits 8 none RX11) (hY : ea_Y ids) {k19 : Int32 → Int32 → Int32 → eM → Option (eM)} (hk19 : ∀ (x2 : Int32) (x4 : Int32) (x5 : Int32) (M : eM) (H : Heap) (locs : List Loc) (ls : Array Slot), k19 x2 x4 x5 M = some res → ea_w E ids M s H locs → lv_has ls 8 [(0, .ref (E.1 100)), (2, .int x2), (4, .int x4), (5, .int x5)] → W p l e (ea_rm 5 116) s m args below meth cd H locs 0 0 (MQ below (ea_Qv E ids res) args s 0 0 (ea_Ad E ids)) (F0 m 19 ls [])) : ∀ (x2 : Int32) (x4 : Int32) (x5 : Int32) (M : eM) (H : Heap) (locs : List Loc) (ls : Array Slot), fX11_findFits_90 k19 x2 x4 x5 M = some res → ea_w E ids M s H locs → lv_has ls 8 [(0, .ref (E.1 100)), (2, .int x2), (4, .int x4), (5, .int x5)] → W p l e (ea_rm 5 116) s m args below meth cd H locs 0 0 (MQ below (ea_Qv E ids res) args s 0 0 (ea_Ad E ids)) (F0 m 90 ls []) := by
  intro x2 x4 x5 M H locs ls hf  hw hl
  replace hf := (fX11_findFits_90.eq_1 ..).symm.trans hf
  refine lv_iinc (v := x5 + (1 : Int32)) (lv' := [(5, .int (x5 + (1 : Int32))), (0, .ref (E.1 100)), (2, .int x2), (4, .int x4)]) C.1 C.2.1 dX11_findFits_90 hl (k := 3) rfl rfl (by decide) rfl (fun ls hl => ?_)
  refine lv_goto (tgt := 19) C.1 C.2.1 dX11_findFits_93 (by decide) ?_
  exact hk19 _ _ _ _ _ _ _ hf hw (lv_sub hl [1, 2, 3, 0] rfl)
set_option maxHeartbeats 4000000 in
set_option maxRecDepth 20000 in
theorem wX11_findFits_19 (C : ea_C p s m args meth cd cX11_findFits 8 none RX11) (hY : ea_Y ids) {k96 : eM → Option (eM)} (hk96 : ∀  (M : eM) (H : Heap) (locs : List Loc) (ls : Array Slot), k96 M = some res → ea_w E ids M s H locs → lv_has ls 8 [(0, .ref (E.1 100))] → W p l e (ea_rm 5 116) s m args below meth cd H locs 0 0 (MQ below (ea_Qv E ids res) args s 0 0 (ea_Ad E ids)) (F0 m 96 ls [])) : ∀ (n : Nat) (x2 : Int32) (x4 : Int32) (x5 : Int32) (M : eM) (H : Heap) (locs : List Loc) (ls : Array Slot), fX11_findFits_19 k96 n x2 x4 x5 M = some res → ea_w E ids M s H locs → lv_has ls 8 [(0, .ref (E.1 100)), (2, .int x2), (4, .int x4), (5, .int x5)] → W p l e (ea_rm 5 116) s m args below meth cd H locs 0 0 (MQ below (ea_Qv E ids res) args s 0 0 (ea_Ad E ids)) (F0 m 19 ls []) := by
  intro n
  induction n with
  | zero => intro x2 x4 x5 M H locs ls hf; cases hf
  | succ n ih =>
    intro x2 x4 x5 M H locs ls hf  hw hl
    replace hf := (fX11_findFits_19.eq_2 ..).symm.trans hf
    refine lv_iload C.1 C.2.1 dX11_findFits_19 (lv_at hl 3 rfl) ?_
    refine lv_aload_n C.1 C.2.1 dX11_findFits_21 rfl (lv_at hl 0 rfl) ?_
    refine gf_X11_17 C hw (hY 100 11 rfl) dX11_findFits_22 ?_
    refine W.eq (g2 := F0 m 25 ls [.ref (E.1 102), .int x5]) rfl ?_
    refine lv_bipush (v := 7) C.1 C.2.1 dX11_findFits_25 (by decide) ?_
    refine ea_iald C hw (show ea_ok ids 102 20 from ok_11_12 (hY 100 11 rfl)) (by decide) dX11_findFits_27 ?_
    refine lv_icmp_gt (tgt := 96) C.1 C.2.1 dX11_findFits_28 (by decide) (fun hc1 => ?_) (fun hc1 => ?_)
    · replace hf := ea_if_t hc1 hf
      exact hk96 _ _ _ _ hf hw (lv_sub hl [0] rfl)
    · replace hf := ea_if_f hc1 hf
      refine lv_iconst (v := 0) C.1 C.2.1 dX11_findFits_31 (by decide) ?_
      refine lv_istore (lv' := [(6, .int (0 : Int32)), (0, .ref (E.1 100)), (2, .int x2), (4, .int x4), (5, .int x5)]) C.1 C.2.1 dX11_findFits_32 hl (by decide) rfl (fun ls hl => ?_)
      exact wX11_findFits_34 C hY (wX11_findFits_90 C hY ih) ea_N _ _ _ _ _ _ _ _ hf hw (lv_sub hl [1, 2, 3, 4, 0] rfl)
set_option maxHeartbeats 4000000 in
set_option maxRecDepth 20000 in
theorem wX11_findFits_196 (C : ea_C p s m args meth cd cX11_findFits 8 none RX11) (hY : ea_Y ids) {k127 : Int32 → Int32 → Int32 → eM → Option (eM)} (hk127 : ∀ (x5 : Int32) (x6 : Int32) (x7 : Int32) (M : eM) (H : Heap) (locs : List Loc) (ls : Array Slot), k127 x5 x6 x7 M = some res → ea_w E ids M s H locs → lv_has ls 8 [(0, .ref (E.1 100)), (5, .int x5), (6, .int x6), (7, .int x7)] → W p l e (ea_rm 5 116) s m args below meth cd H locs 0 0 (MQ below (ea_Qv E ids res) args s 0 0 (ea_Ad E ids)) (F0 m 127 ls [])) : ∀ (x5 : Int32) (x6 : Int32) (x7 : Int32) (M : eM) (H : Heap) (locs : List Loc) (ls : Array Slot), fX11_findFits_196 k127 x5 x6 x7 M = some res → ea_w E ids M s H locs → lv_has ls 8 [(0, .ref (E.1 100)), (5, .int x5), (6, .int x6), (7, .int x7)] → W p l e (ea_rm 5 116) s m args below meth cd H locs 0 0 (MQ below (ea_Qv E ids res) args s 0 0 (ea_Ad E ids)) (F0 m 196 ls []) := by
  intro x5 x6 x7 M H locs ls hf  hw hl
  replace hf := (fX11_findFits_196.eq_1 ..).symm.trans hf
  refine lv_iinc (v := x7 + (1 : Int32)) (lv' := [(7, .int (x7 + (1 : Int32))), (0, .ref (E.1 100)), (5, .int x5), (6, .int x6)]) C.1 C.2.1 dX11_findFits_196 hl (k := 3) rfl rfl (by decide) rfl (fun ls hl => ?_)
  refine lv_goto (tgt := 127) C.1 C.2.1 dX11_findFits_199 (by decide) ?_
  exact hk127 _ _ _ _ _ _ _ hf hw (lv_sub hl [1, 2, 3, 0] rfl)
set_option maxHeartbeats 4000000 in
set_option maxRecDepth 20000 in
theorem wX11_findFits_127 (C : ea_C p s m args meth cd cX11_findFits 8 none RX11) (hY : ea_Y ids) {k202 : Int32 → Int32 → eM → Option (eM)} (hk202 : ∀ (x5 : Int32) (x6 : Int32) (M : eM) (H : Heap) (locs : List Loc) (ls : Array Slot), k202 x5 x6 M = some res → ea_w E ids M s H locs → lv_has ls 8 [(0, .ref (E.1 100)), (5, .int x5), (6, .int x6)] → W p l e (ea_rm 5 116) s m args below meth cd H locs 0 0 (MQ below (ea_Qv E ids res) args s 0 0 (ea_Ad E ids)) (F0 m 202 ls [])) : ∀ (n : Nat) (x5 : Int32) (x6 : Int32) (x7 : Int32) (M : eM) (H : Heap) (locs : List Loc) (ls : Array Slot), fX11_findFits_127 k202 n x5 x6 x7 M = some res → ea_w E ids M s H locs → lv_has ls 8 [(0, .ref (E.1 100)), (5, .int x5), (6, .int x6), (7, .int x7)] → W p l e (ea_rm 5 116) s m args below meth cd H locs 0 0 (MQ below (ea_Qv E ids res) args s 0 0 (ea_Ad E ids)) (F0 m 127 ls []) := by
  intro n
  induction n with
  | zero => intro x5 x6 x7 M H locs ls hf; cases hf
  | succ n ih =>
    intro x5 x6 x7 M H locs ls hf  hw hl
    replace hf := (fX11_findFits_127.eq_2 ..).symm.trans hf
    refine lv_iload C.1 C.2.1 dX11_findFits_127 (lv_at hl 3 rfl) ?_
    refine lv_aload_n C.1 C.2.1 dX11_findFits_129 rfl (lv_at hl 0 rfl) ?_
    refine gf_X11_17 C hw (hY 100 11 rfl) dX11_findFits_130 ?_
    refine W.eq (g2 := F0 m 133 ls [.ref (E.1 102), .int x7]) rfl ?_
    refine lv_bipush (v := 7) C.1 C.2.1 dX11_findFits_133 (by decide) ?_
    refine ea_iald C hw (show ea_ok ids 102 20 from ok_11_12 (hY 100 11 rfl)) (by decide) dX11_findFits_135 ?_
    refine lv_icmp_gt (tgt := 202) C.1 C.2.1 dX11_findFits_136 (by decide) (fun hc1 => ?_) (fun hc1 => ?_)
    · replace hf := ea_if_t hc1 hf
      exact hk202 _ _ _ _ _ _ hf hw (lv_sub hl [0, 1, 2] rfl)
    · replace hf := ea_if_f hc1 hf
      refine lv_aload_n C.1 C.2.1 dX11_findFits_139 rfl (lv_at hl 0 rfl) ?_
      refine lv_iload C.1 C.2.1 dX11_findFits_140 (lv_at hl 1 rfl) ?_
      refine lv_aload_n C.1 C.2.1 dX11_findFits_142 rfl (lv_at hl 0 rfl) ?_
      refine gf_X11_77 C hw (hY 100 11 rfl) dX11_findFits_143 ?_
      refine W.eq (g2 := F0 m 146 ls [.ref (E.1 121), .int x5, .ref (E.1 100)]) rfl ?_
      refine lv_bipush (v := 22) C.1 C.2.1 dX11_findFits_146 (by decide) ?_
      refine lv_iload C.1 C.2.1 dX11_findFits_148 (lv_at hl 3 rfl) ?_
      refine lv_imul C.1 C.2.1 dX11_findFits_150 ?_
      obtain ⟨r3, M4, he2, hf⟩ := ea_ci_s hf
      refine ea_runi2 hw (cl_X11_306 C hw (hY 100 11 rfl) (As := [.int x5, .ref (E.1 121), .int ((22 : Int32) * x7)]) (rest := []) (mX11_isSo (l := l) (E := E) (ids := ids) hY (show ea_ok ids 121 20 from ok_11_37 (hY 100 11 rfl)) he2) (by decide) rfl hl.1 rfl (Nat.le_of_ble_eq_true rfl) dX11_findFits_151 ⟨Nat.le_refl _, Nat.le_refl _⟩) (fun H locs hw => ?_)
      refine lv_if_ne (tgt := 160) C.1 C.2.1 dX11_findFits_154 (by decide) (fun hc5 => ?_) (fun hc5 => ?_)
      · replace hf := ea_if_f hc5 hf
        refine lv_aload_n C.1 C.2.1 dX11_findFits_160 rfl (lv_at hl 0 rfl) ?_
        refine gf_X11_71 C hw (hY 100 11 rfl) dX11_findFits_161 ?_
        refine W.eq (g2 := F0 m 164 ls [.ref (E.1 119)]) rfl ?_
        refine lv_aload_n C.1 C.2.1 dX11_findFits_164 rfl (lv_at hl 0 rfl) ?_
        refine gf_X11_300 C hw (hY 100 11 rfl) dX11_findFits_165 ?_
        refine lv_iload C.1 C.2.1 dX11_findFits_168 (lv_at hl 1 rfl) ?_
        obtain ⟨hc6, hf⟩ := ea_ck_s hf
        refine ea_iast C hw (show ea_ok ids 119 20 from ok_11_35 (hY 100 11 rfl)) hc6 dX11_findFits_170 (fun H locs hw => ?_)
        refine lv_aload_n C.1 C.2.1 dX11_findFits_171 rfl (lv_at hl 0 rfl) ?_
        refine gf_X11_74 C hw (hY 100 11 rfl) dX11_findFits_172 ?_
        refine W.eq (g2 := F0 m 175 ls [.ref (E.1 120)]) rfl ?_
        refine lv_aload_n C.1 C.2.1 dX11_findFits_175 rfl (lv_at hl 0 rfl) ?_
        refine gf_X11_300 C hw (hY 100 11 rfl) dX11_findFits_176 ?_
        refine lv_aload_n C.1 C.2.1 dX11_findFits_179 rfl (lv_at hl 0 rfl) ?_
        refine lv_iload C.1 C.2.1 dX11_findFits_180 (lv_at hl 3 rfl) ?_
        obtain ⟨r8, M9, he7, hf⟩ := ea_ci_s hf
        refine ea_runi2 hw (cl_X11_297 C hw (hY 100 11 rfl) (As := [.int x7]) (rest := [.int ((ea_pI M4 119 ((M4.1 100 33).toNatClampNeg) x5).1 100 33), .ref (E.1 120)]) (mX11_yearAt (l := l) (E := E) (ids := ids) hY he7) (by decide) rfl hl.1 rfl (Nat.le_of_ble_eq_true rfl) dX11_findFits_182 ⟨Nat.le_refl _, Nat.le_refl _⟩) (fun H locs hw => ?_)
        obtain ⟨hc10, hf⟩ := ea_ck_s hf
        refine ea_iast C hw (show ea_ok ids 120 20 from ok_11_36 (hY 100 11 rfl)) hc10 dX11_findFits_185 (fun H locs hw => ?_)
        refine lv_aload_n C.1 C.2.1 dX11_findFits_186 rfl (lv_at hl 0 rfl) ?_
        refine lv_dup C.1 C.2.1 dX11_findFits_187 rfl ?_
        refine gf_X11_300 C hw (hY 100 11 rfl) dX11_findFits_188 ?_
        refine lv_iconst (v := 1) C.1 C.2.1 dX11_findFits_191 (by decide) ?_
        refine lv_iadd C.1 C.2.1 dX11_findFits_192 ?_
        refine pu_X11_300 C hw (hY 100 11 rfl) dX11_findFits_193 (fun H locs hw => ?_)
        exact wX11_findFits_196 C hY ih _ _ _ _ _ _ _ hf hw (lv_sub hl [0, 1, 2, 3] rfl)
      · replace hf := ea_if_t hc5 hf
        refine lv_goto (tgt := 196) C.1 C.2.1 dX11_findFits_157 (by decide) ?_
        exact wX11_findFits_196 C hY ih _ _ _ _ _ _ _ hf hw (lv_sub hl [0, 1, 2, 3] rfl)
set_option maxHeartbeats 4000000 in
set_option maxRecDepth 20000 in
theorem wX11_findFits_221 (C : ea_C p s m args meth cd cX11_findFits 8 none RX11) (hY : ea_Y ids) {k109 : Int32 → eM → Option (eM)} (hk109 : ∀ (x5 : Int32) (M : eM) (H : Heap) (locs : List Loc) (ls : Array Slot), k109 x5 M = some res → ea_w E ids M s H locs → lv_has ls 8 [(0, .ref (E.1 100)), (5, .int x5)] → W p l e (ea_rm 5 116) s m args below meth cd H locs 0 0 (MQ below (ea_Qv E ids res) args s 0 0 (ea_Ad E ids)) (F0 m 109 ls [])) : ∀ (x5 : Int32) (t0 : Int32) (t1 : Int32) (M : eM) (H : Heap) (locs : List Loc) (ls : Array Slot), fX11_findFits_221 k109 x5 t0 t1 M = some res → ea_w E ids M s H locs → lv_has ls 8 [(0, .ref (E.1 100)), (5, .int x5)] → W p l e (ea_rm 5 116) s m args below meth cd H locs 0 0 (MQ below (ea_Qv E ids res) args s 0 0 (ea_Ad E ids)) (F0 m 221 ls [.int t0, .int t1, .ref (E.1 100)]) := by
  intro x5 t0 t1 M H locs ls hf  hw hl
  replace hf := (fX11_findFits_221.eq_1 ..).symm.trans hf
  refine lv_iadd C.1 C.2.1 dX11_findFits_221 ?_
  refine pu_X11_303 C hw (hY 100 11 rfl) dX11_findFits_222 (fun H locs hw => ?_)
  refine lv_iinc (v := x5 + (1 : Int32)) (lv' := [(5, .int (x5 + (1 : Int32))), (0, .ref (E.1 100))]) C.1 C.2.1 dX11_findFits_225 hl (k := 1) rfl rfl (by decide) rfl (fun ls hl => ?_)
  refine lv_goto (tgt := 109) C.1 C.2.1 dX11_findFits_228 (by decide) ?_
  exact hk109 _ _ _ _ _ hf hw (lv_sub hl [1, 0] rfl)
set_option maxHeartbeats 4000000 in
set_option maxRecDepth 20000 in
theorem wX11_findFits_202 (C : ea_C p s m args meth cd cX11_findFits 8 none RX11) (hY : ea_Y ids) {k109 : Int32 → eM → Option (eM)} (hk109 : ∀ (x5 : Int32) (M : eM) (H : Heap) (locs : List Loc) (ls : Array Slot), k109 x5 M = some res → ea_w E ids M s H locs → lv_has ls 8 [(0, .ref (E.1 100)), (5, .int x5)] → W p l e (ea_rm 5 116) s m args below meth cd H locs 0 0 (MQ below (ea_Qv E ids res) args s 0 0 (ea_Ad E ids)) (F0 m 109 ls [])) : ∀ (x5 : Int32) (x6 : Int32) (M : eM) (H : Heap) (locs : List Loc) (ls : Array Slot), fX11_findFits_202 k109 x5 x6 M = some res → ea_w E ids M s H locs → lv_has ls 8 [(0, .ref (E.1 100)), (5, .int x5), (6, .int x6)] → W p l e (ea_rm 5 116) s m args below meth cd H locs 0 0 (MQ below (ea_Qv E ids res) args s 0 0 (ea_Ad E ids)) (F0 m 202 ls []) := by
  intro x5 x6 M H locs ls hf  hw hl
  replace hf := (fX11_findFits_202.eq_1 ..).symm.trans hf
  refine lv_aload_n C.1 C.2.1 dX11_findFits_202 rfl (lv_at hl 0 rfl) ?_
  refine lv_dup C.1 C.2.1 dX11_findFits_203 rfl ?_
  refine gf_X11_303 C hw (hY 100 11 rfl) dX11_findFits_204 ?_
  refine lv_aload_n C.1 C.2.1 dX11_findFits_207 rfl (lv_at hl 0 rfl) ?_
  refine gf_X11_300 C hw (hY 100 11 rfl) dX11_findFits_208 ?_
  refine lv_iload C.1 C.2.1 dX11_findFits_211 (lv_at hl 2 rfl) ?_
  refine lv_icmp_le (tgt := 220) C.1 C.2.1 dX11_findFits_213 (by decide) (fun hc1 => ?_) (fun hc1 => ?_)
  · replace hf := ea_if_t hc1 hf
    refine lv_iconst (v := 0) C.1 C.2.1 dX11_findFits_220 (by decide) ?_
    exact wX11_findFits_221 C hY hk109 _ _ _ _ _ _ _ hf hw (lv_sub hl [0, 1] rfl)
  · replace hf := ea_if_f hc1 hf
    refine lv_iconst (v := 1) C.1 C.2.1 dX11_findFits_216 (by decide) ?_
    refine lv_goto (tgt := 221) C.1 C.2.1 dX11_findFits_217 (by decide) ?_
    exact wX11_findFits_221 C hY hk109 _ _ _ _ _ _ _ hf hw (lv_sub hl [0, 1] rfl)
set_option maxHeartbeats 4000000 in
set_option maxRecDepth 20000 in
theorem wX11_findFits_109 (C : ea_C p s m args meth cd cX11_findFits 8 none RX11) (hY : ea_Y ids) : ∀ (n : Nat) (x5 : Int32) (M : eM) (H : Heap) (locs : List Loc) (ls : Array Slot), fX11_findFits_109 n x5 M = some res → ea_w E ids M s H locs → lv_has ls 8 [(0, .ref (E.1 100)), (5, .int x5)] → W p l e (ea_rm 5 116) s m args below meth cd H locs 0 0 (MQ below (ea_Qv E ids res) args s 0 0 (ea_Ad E ids)) (F0 m 109 ls []) := by
  intro n
  induction n with
  | zero => intro x5 M H locs ls hf; cases hf
  | succ n ih =>
    intro x5 M H locs ls hf  hw hl
    replace hf := (fX11_findFits_109.eq_2 ..).symm.trans hf
    refine lv_iload C.1 C.2.1 dX11_findFits_109 (lv_at hl 1 rfl) ?_
    refine lv_aload_n C.1 C.2.1 dX11_findFits_111 rfl (lv_at hl 0 rfl) ?_
    refine gf_X11_189 C hw (hY 100 11 rfl) dX11_findFits_112 ?_
    refine lv_icmp_ge (tgt := 231) C.1 C.2.1 dX11_findFits_115 (by decide) (fun hc1 => ?_) (fun hc1 => ?_)
    · replace hf := ea_if_t hc1 hf
      exact ea_vret C hw hf dX11_findFits_231
    · replace hf := ea_if_f hc1 hf
      refine lv_aload_n C.1 C.2.1 dX11_findFits_118 rfl (lv_at hl 0 rfl) ?_
      refine gf_X11_300 C hw (hY 100 11 rfl) dX11_findFits_119 ?_
      refine lv_istore (lv' := [(6, .int (M.1 100 33)), (0, .ref (E.1 100)), (5, .int x5)]) C.1 C.2.1 dX11_findFits_122 hl (by decide) rfl (fun ls hl => ?_)
      refine lv_iconst (v := 0) C.1 C.2.1 dX11_findFits_124 (by decide) ?_
      refine lv_istore (lv' := [(7, .int (0 : Int32)), (6, .int (M.1 100 33)), (0, .ref (E.1 100)), (5, .int x5)]) C.1 C.2.1 dX11_findFits_125 hl (by decide) rfl (fun ls hl => ?_)
      exact wX11_findFits_127 C hY (wX11_findFits_202 C hY ih) ea_N _ _ _ _ _ _ _ hf hw (lv_sub hl [2, 3, 1, 0] rfl)
set_option maxHeartbeats 4000000 in
set_option maxRecDepth 20000 in
theorem wX11_findFits_96 (C : ea_C p s m args meth cd cX11_findFits 8 none RX11) (hY : ea_Y ids) : ∀  (M : eM) (H : Heap) (locs : List Loc) (ls : Array Slot), fX11_findFits_96 M = some res → ea_w E ids M s H locs → lv_has ls 8 [(0, .ref (E.1 100))] → W p l e (ea_rm 5 116) s m args below meth cd H locs 0 0 (MQ below (ea_Qv E ids res) args s 0 0 (ea_Ad E ids)) (F0 m 96 ls []) := by
  intro M H locs ls hf  hw hl
  replace hf := (fX11_findFits_96.eq_1 ..).symm.trans hf
  refine lv_aload_n C.1 C.2.1 dX11_findFits_96 rfl (lv_at hl 0 rfl) ?_
  refine lv_iconst (v := 0) C.1 C.2.1 dX11_findFits_97 (by decide) ?_
  refine pu_X11_300 C hw (hY 100 11 rfl) dX11_findFits_98 (fun H locs hw => ?_)
  refine lv_aload_n C.1 C.2.1 dX11_findFits_101 rfl (lv_at hl 0 rfl) ?_
  refine lv_iconst (v := 0) C.1 C.2.1 dX11_findFits_102 (by decide) ?_
  refine pu_X11_303 C hw (hY 100 11 rfl) dX11_findFits_103 (fun H locs hw => ?_)
  refine lv_iconst (v := 0) C.1 C.2.1 dX11_findFits_106 (by decide) ?_
  refine lv_istore (lv' := [(5, .int (0 : Int32)), (0, .ref (E.1 100))]) C.1 C.2.1 dX11_findFits_107 hl (by decide) rfl (fun ls hl => ?_)
  exact wX11_findFits_109 C hY ea_N _ _ _ _ _ hf hw (lv_sub hl [1, 0] rfl)
set_option maxHeartbeats 4000000 in
set_option maxRecDepth 20000 in
theorem wX11_findFits_0 (C : ea_C p s m args meth cd cX11_findFits 8 none RX11) (hY : ea_Y ids) : ∀ (x1 : Int32) (x2 : Int32) (x3 : Int32) (M : eM) (H : Heap) (locs : List Loc) (ls : Array Slot), fX11_findFits_0 x1 x2 x3 M = some res → ea_w E ids M s H locs → lv_has ls 8 [(0, .ref (E.1 100)), (1, .int x1), (2, .int x2), (3, .int x3)] → W p l e (ea_rm 5 116) s m args below meth cd H locs 0 0 (MQ below (ea_Qv E ids res) args s 0 0 (ea_Ad E ids)) (F0 m 0 ls []) := by
  intro x1 x2 x3 M H locs ls hf  hw hl
  replace hf := (fX11_findFits_0.eq_1 ..).symm.trans hf
  refine lv_aload_n C.1 C.2.1 dX11_findFits_0 rfl (lv_at hl 0 rfl) ?_
  refine lv_iload_n C.1 C.2.1 dX11_findFits_1 rfl (lv_at hl 1 rfl) ?_
  refine lv_iload_n C.1 C.2.1 dX11_findFits_2 rfl (lv_at hl 3 rfl) ?_
  obtain ⟨M2, he1, hf⟩ := ea_cv_s hf
  refine ea_runv hw (cl_X11_293 C hw (hY 100 11 rfl) (As := [.int x1, .int x3]) (rest := []) (mX11_findWords (l := l) (E := E) (ids := ids) hY he1) (by decide) rfl hl.1 rfl (Nat.le_of_ble_eq_true rfl) dX11_findFits_3 ⟨Nat.le_refl _, Nat.le_refl _⟩) (fun H locs hw => ?_)
  refine lv_iload_n C.1 C.2.1 dX11_findFits_6 rfl (lv_at hl 1 rfl) ?_
  refine lv_aload_n C.1 C.2.1 dX11_findFits_7 rfl (lv_at hl 0 rfl) ?_
  refine gf_X11_17 C hw (hY 100 11 rfl) dX11_findFits_8 ?_
  refine W.eq (g2 := F0 m 11 ls [.ref (E.1 102), .int x1]) rfl ?_
  refine lv_iconst (v := 0) C.1 C.2.1 dX11_findFits_11 (by decide) ?_
  refine ea_iald C hw (show ea_ok ids 102 20 from ok_11_12 (hY 100 11 rfl)) (by decide) dX11_findFits_12 ?_
  obtain ⟨hc3, hf⟩ := ea_ck_s hf
  refine lv_irem C.1 C.2.1 dX11_findFits_13 (ea_nz_s hc3) ?_
  obtain ⟨y4, ey5, hf⟩ := ea_lt_s hf
  refine ea_topi ey5 ?_
  refine lv_istore (lv' := [(4, .int y4), (0, .ref (E.1 100)), (1, .int x1), (2, .int x2), (3, .int x3)]) C.1 C.2.1 dX11_findFits_14 hl (by decide) rfl (fun ls hl => ?_)
  refine lv_iconst (v := 0) C.1 C.2.1 dX11_findFits_16 (by decide) ?_
  refine lv_istore (lv' := [(5, .int (0 : Int32)), (4, .int y4), (0, .ref (E.1 100)), (1, .int x1), (2, .int x2), (3, .int x3)]) C.1 C.2.1 dX11_findFits_17 hl (by decide) rfl (fun ls hl => ?_)
  exact wX11_findFits_19 C hY (wX11_findFits_96 C hY) ea_N _ _ _ _ _ _ _ hf hw (lv_sub hl [2, 4, 1, 0] rfl)
set_option maxHeartbeats 4000000 in
set_option maxRecDepth 20000 in
theorem mX11_findFits {l : Launch} {E : eE} {ids : List Nat} (hY : ea_Y ids) {x1 : Int32} {x2 : Int32} {x3 : Int32} {M : eM} {res : eM} (hf : fX11_findFits x1 x2 x3 M = some res) : ea_Mv l yX11_findFits cX11_findFits 8 5 116 E ids [.ref (E.1 100), .int x1, .int x2, .int x3] M res := by
  refine ea_gov (by decide) (Nat.le_of_ble_eq_true rfl) wc_X11_findFits ?_
  intro p e s m below meth cd ls C hw hl
  exact wX11_findFits_0 C hY _ _ _ _ _ _ _ hf hw hl
end SX11_findFits

def fX11_isBound_0 (x0 : Int32) (M : eM) : Option (Int32 × eM) := ea_ci (fX11_in x0 (0 : Int32) (99 : Int32) M) (fun r2 M3 => ea_ck (ea_01 r2) (some (r2, M3)))
def fX11_isBound (x0 : Int32) (M : eM) : Option (Int32 × eM) := fX11_isBound_0 x0 M
section SX11_isBound
variable {p : Program} {l : Launch} {e : Env} {s : State} {m : MethodId} {args : Array Value} {below : List Frame} {meth : Method} {cd : Code} {E : eE} {ids : List Nat} {res : Int32 × eM}
set_option maxHeartbeats 4000000 in
set_option maxRecDepth 20000 in
theorem wX11_isBound_0 (C : ea_C p s m args meth cd cX11_isBound 1 (some .boolean) RX11) (hY : ea_Y ids) : ∀ (x0 : Int32) (M : eM) (H : Heap) (locs : List Loc) (ls : Array Slot), fX11_isBound_0 x0 M = some res → ea_w E ids M s H locs → lv_has ls 1 [(0, .int x0)] → W p l e (ea_rm 1 22) s m args below meth cd H locs 0 0 (MQ below (ea_Qi E ids res) args s 0 0 (ea_Ad E ids)) (F0 m 0 ls []) := by
  intro x0 M H locs ls hf  hw hl
  replace hf := (fX11_isBound_0.eq_1 ..).symm.trans hf
  refine lv_iload_n C.1 C.2.1 dX11_isBound_0 rfl (lv_at hl 0 rfl) ?_
  refine lv_iconst (v := 0) C.1 C.2.1 dX11_isBound_1 (by decide) ?_
  refine lv_bipush (v := 99) C.1 C.2.1 dX11_isBound_2 (by decide) ?_
  obtain ⟨r2, M3, he1, hf⟩ := ea_ci_s hf
  refine ea_runi2 hw (cl_X11_172 C hw (As := [.int x0, .int (0 : Int32), .int (99 : Int32)]) (rest := []) (mX11_in (l := l) (E := E) (ids := ids) hY he1) (by decide) rfl hl.1 rfl (Nat.le_of_ble_eq_true rfl) dX11_isBound_4 ⟨Nat.le_refl _, Nat.le_refl _⟩) (fun H locs hw => ?_)
  obtain ⟨hc4, hf⟩ := ea_ck_s hf
  exact ea_zret C hw (ea_01_s hc4) hf dX11_isBound_7
set_option maxHeartbeats 4000000 in
set_option maxRecDepth 20000 in
theorem mX11_isBound {l : Launch} {E : eE} {ids : List Nat} (hY : ea_Y ids) {x0 : Int32} {M : eM} {res : Int32 × eM} (hf : fX11_isBound x0 M = some res) : ea_Mi l yX11_isBound cX11_isBound 1 (some .boolean) 1 22 E ids [.int x0] M res := by
  refine ea_goi (by decide) (Nat.le_of_ble_eq_true rfl) wc_X11_isBound ?_
  intro p e s m below meth cd ls C hw hl
  exact wX11_isBound_0 C hY _ _ _ _ _ hf hw hl
end SX11_isBound

def fX11_isStory_0 (x1 : Int32) (M : eM) : Option (Int32 × eM) := ea_ci (fX11_in x1 (0 : Int32) ((M.1 102 (5 : Int32).toNatClampNeg) - (1 : Int32)) M) (fun r2 M3 => ea_ck (ea_01 r2) (some (r2, M3)))
def fX11_isStory (x1 : Int32) (M : eM) : Option (Int32 × eM) := fX11_isStory_0 x1 M
section SX11_isStory
variable {p : Program} {l : Launch} {e : Env} {s : State} {m : MethodId} {args : Array Value} {below : List Frame} {meth : Method} {cd : Code} {E : eE} {ids : List Nat} {res : Int32 × eM}
set_option maxHeartbeats 4000000 in
set_option maxRecDepth 20000 in
theorem wX11_isStory_0 (C : ea_C p s m args meth cd cX11_isStory 2 (some .boolean) RX11) (hY : ea_Y ids) : ∀ (x1 : Int32) (M : eM) (H : Heap) (locs : List Loc) (ls : Array Slot), fX11_isStory_0 x1 M = some res → ea_w E ids M s H locs → lv_has ls 2 [(0, .ref (E.1 100)), (1, .int x1)] → W p l e (ea_rm 1 22) s m args below meth cd H locs 0 0 (MQ below (ea_Qi E ids res) args s 0 0 (ea_Ad E ids)) (F0 m 0 ls []) := by
  intro x1 M H locs ls hf  hw hl
  replace hf := (fX11_isStory_0.eq_1 ..).symm.trans hf
  refine lv_iload_n C.1 C.2.1 dX11_isStory_0 rfl (lv_at hl 1 rfl) ?_
  refine lv_iconst (v := 0) C.1 C.2.1 dX11_isStory_1 (by decide) ?_
  refine lv_aload_n C.1 C.2.1 dX11_isStory_2 rfl (lv_at hl 0 rfl) ?_
  refine gf_X11_17 C hw (hY 100 11 rfl) dX11_isStory_3 ?_
  refine W.eq (g2 := F0 m 6 ls [.ref (E.1 102), .int (0 : Int32), .int x1]) rfl ?_
  refine lv_iconst (v := 5) C.1 C.2.1 dX11_isStory_6 (by decide) ?_
  refine ea_iald C hw (show ea_ok ids 102 20 from ok_11_12 (hY 100 11 rfl)) (by decide) dX11_isStory_7 ?_
  refine lv_iconst (v := 1) C.1 C.2.1 dX11_isStory_8 (by decide) ?_
  refine lv_isub C.1 C.2.1 dX11_isStory_9 ?_
  obtain ⟨r2, M3, he1, hf⟩ := ea_ci_s hf
  refine ea_runi2 hw (cl_X11_172 C hw (As := [.int x1, .int (0 : Int32), .int ((M.1 102 (5 : Int32).toNatClampNeg) - (1 : Int32))]) (rest := []) (mX11_in (l := l) (E := E) (ids := ids) hY he1) (by decide) rfl hl.1 rfl (Nat.le_of_ble_eq_true rfl) dX11_isStory_10 ⟨Nat.le_refl _, Nat.le_refl _⟩) (fun H locs hw => ?_)
  obtain ⟨hc4, hf⟩ := ea_ck_s hf
  exact ea_zret C hw (ea_01_s hc4) hf dX11_isStory_13
set_option maxHeartbeats 4000000 in
set_option maxRecDepth 20000 in
theorem mX11_isStory {l : Launch} {E : eE} {ids : List Nat} (hY : ea_Y ids) {x1 : Int32} {M : eM} {res : Int32 × eM} (hf : fX11_isStory x1 M = some res) : ea_Mi l yX11_isStory cX11_isStory 2 (some .boolean) 1 22 E ids [.ref (E.1 100), .int x1] M res := by
  refine ea_goi (by decide) (Nat.le_of_ble_eq_true rfl) wc_X11_isStory ?_
  intro p e s m below meth cd ls C hw hl
  exact wX11_isStory_0 C hY _ _ _ _ _ hf hw hl
end SX11_isStory

def fX11_bear_92 (k127 : Int32 → Int32 → Int32 → Int32 → Int32 → eM → Option (Int32 × eM)) : Nat → Int32 → Int32 → Int32 → Int32 → Int32 → Int32 → Int32 → eM → Option (Int32 × eM)
  | 0, _, _, _, _, _, _, _, _ => none
  | n + 1, x1, x2, x3, x4, x5, x6, x7, M => if x4 ≤ x7 then (k127 x1 x2 x3 x5 x7 M) else (ea_ci (fX11_bears (M.1 119 (0 : Int32).toNatClampNeg) x6 ((x7 + (1 : Int32)) * x2) x3 M) (fun r3 M4 => if r3 = 0 then (k127 x1 x2 x3 x5 x7 M4) else (fX11_bear_92 k127 n x1 x2 x3 x4 x5 x6 (x7 + (1 : Int32)) M4)))
def fX11_bear_131 (k36 : Int32 → Int32 → Int32 → Int32 → Int32 → eM → Option (Int32 × eM)) (x1 : Int32) (x2 : Int32) (x3 : Int32) (x4 : Int32) (x5 : Int32) (M : eM) : Option (Int32 × eM) := k36 x1 x2 x3 x4 (x5 + (1 : Int32)) M
def fX11_bear_127 (k36 : Int32 → Int32 → Int32 → Int32 → Int32 → eM → Option (Int32 × eM)) (x1 : Int32) (x2 : Int32) (x3 : Int32) (x5 : Int32) (x7 : Int32) (M : eM) : Option (Int32 × eM) := fX11_bear_131 k36 x1 x2 x3 x7 x5 M
def fX11_bear_36 : Nat → Int32 → Int32 → Int32 → Int32 → Int32 → eM → Option (Int32 × eM)
  | 0, _, _, _, _, _, _ => none
  | n + 1, x1, x2, x3, x4, x5, M => ea_ci (fX11_cells M) (fun r2 M3 => if r2 ≤ x5 then (some (x4, M3)) else (ea_cv (fX11_findFits x5 x1 (999 : Int32) M3) (fun M6 => if (M6.1 100 33) = (1 : Int32) then (ea_ck (ea_nz (M6.1 102 (0 : Int32).toNatClampNeg)) (ea_ci (fX11_hoursOf x1 (x5 - x5 / (M6.1 102 (0 : Int32).toNatClampNeg) * (M6.1 102 (0 : Int32).toNatClampNeg)) (M6.1 120 (0 : Int32).toNatClampNeg) (0 : Int32) M6) (fun r10 M11 => fX11_bear_92 (fX11_bear_127 (fX11_bear_36 n)) ea_N x1 x2 x3 x4 x5 r10 (0 : Int32) M11))) else (fX11_bear_131 (fX11_bear_36 n) x1 x2 x3 x4 x5 M6))))
def fX11_bear_0 (x1 : Int32) (x2 : Int32) (x3 : Int32) (M : eM) : Option (Int32 × eM) := ea_ci (fX11_isStory x1 M) (fun r2 M3 => if r2 = 0 then (some ((-2 : Int32), M3)) else (ea_ci (fX11_in x2 (1 : Int32) (99 : Int32) M3) (fun r6 M7 => if r6 = 0 then (some ((-2 : Int32), M7)) else (ea_ci (fX11_isBound x3 M7) (fun r10 M11 => if r10 = 0 then (some ((-2 : Int32), M11)) else (fX11_bear_36 ea_N x1 x2 x3 (400 : Int32) (0 : Int32) M11))))))
def fX11_bear (x1 : Int32) (x2 : Int32) (x3 : Int32) (M : eM) : Option (Int32 × eM) := fX11_bear_0 x1 x2 x3 M
section SX11_bear
variable {p : Program} {l : Launch} {e : Env} {s : State} {m : MethodId} {args : Array Value} {below : List Frame} {meth : Method} {cd : Code} {E : eE} {ids : List Nat} {res : Int32 × eM}
set_option maxHeartbeats 4000000 in
set_option maxRecDepth 20000 in
theorem wX11_bear_92 (C : ea_C p s m args meth cd cX11_bear 8 (some .int) RX11) (hY : ea_Y ids) {k127 : Int32 → Int32 → Int32 → Int32 → Int32 → eM → Option (Int32 × eM)} (hk127 : ∀ (x1 : Int32) (x2 : Int32) (x3 : Int32) (x5 : Int32) (x7 : Int32) (M : eM) (H : Heap) (locs : List Loc) (ls : Array Slot), k127 x1 x2 x3 x5 x7 M = some res → ea_w E ids M s H locs → lv_has ls 8 [(0, .ref (E.1 100)), (1, .int x1), (2, .int x2), (3, .int x3), (5, .int x5), (7, .int x7)] → W p l e (ea_rm 6 143) s m args below meth cd H locs 0 0 (MQ below (ea_Qi E ids res) args s 0 0 (ea_Ad E ids)) (F0 m 127 ls [])) : ∀ (n : Nat) (x1 : Int32) (x2 : Int32) (x3 : Int32) (x4 : Int32) (x5 : Int32) (x6 : Int32) (x7 : Int32) (M : eM) (H : Heap) (locs : List Loc) (ls : Array Slot), fX11_bear_92 k127 n x1 x2 x3 x4 x5 x6 x7 M = some res → ea_w E ids M s H locs → lv_has ls 8 [(0, .ref (E.1 100)), (1, .int x1), (2, .int x2), (3, .int x3), (4, .int x4), (5, .int x5), (6, .int x6), (7, .int x7)] → W p l e (ea_rm 6 143) s m args below meth cd H locs 0 0 (MQ below (ea_Qi E ids res) args s 0 0 (ea_Ad E ids)) (F0 m 92 ls []) := by
  intro n
  induction n with
  | zero => intro x1 x2 x3 x4 x5 x6 x7 M H locs ls hf; cases hf
  | succ n ih =>
    intro x1 x2 x3 x4 x5 x6 x7 M H locs ls hf  hw hl
    replace hf := (fX11_bear_92.eq_2 ..).symm.trans hf
    refine lv_iload C.1 C.2.1 dX11_bear_92 (lv_at hl 7 rfl) ?_
    refine lv_iload C.1 C.2.1 dX11_bear_94 (lv_at hl 4 rfl) ?_
    refine lv_icmp_ge (tgt := 127) C.1 C.2.1 dX11_bear_96 (by decide) (fun hc1 => ?_) (fun hc1 => ?_)
    · replace hf := ea_if_t hc1 hf
      exact hk127 _ _ _ _ _ _ _ _ _ hf hw (lv_sub hl [0, 1, 2, 3, 5, 7] rfl)
    · replace hf := ea_if_f hc1 hf
      refine lv_aload_n C.1 C.2.1 dX11_bear_99 rfl (lv_at hl 0 rfl) ?_
      refine lv_aload_n C.1 C.2.1 dX11_bear_100 rfl (lv_at hl 0 rfl) ?_
      refine gf_X11_71 C hw (hY 100 11 rfl) dX11_bear_101 ?_
      refine W.eq (g2 := F0 m 104 ls [.ref (E.1 119), .ref (E.1 100)]) rfl ?_
      refine lv_iconst (v := 0) C.1 C.2.1 dX11_bear_104 (by decide) ?_
      refine ea_iald C hw (show ea_ok ids 119 20 from ok_11_35 (hY 100 11 rfl)) (by decide) dX11_bear_105 ?_
      refine lv_iload C.1 C.2.1 dX11_bear_106 (lv_at hl 6 rfl) ?_
      refine lv_iload C.1 C.2.1 dX11_bear_108 (lv_at hl 7 rfl) ?_
      refine lv_iconst (v := 1) C.1 C.2.1 dX11_bear_110 (by decide) ?_
      refine lv_iadd C.1 C.2.1 dX11_bear_111 ?_
      refine lv_iload_n C.1 C.2.1 dX11_bear_112 rfl (lv_at hl 2 rfl) ?_
      refine lv_imul C.1 C.2.1 dX11_bear_113 ?_
      refine lv_iload_n C.1 C.2.1 dX11_bear_114 rfl (lv_at hl 3 rfl) ?_
      obtain ⟨r3, M4, he2, hf⟩ := ea_ci_s hf
      refine ea_runi2 hw (cl_X11_355 C hw (hY 100 11 rfl) (As := [.int (M.1 119 (0 : Int32).toNatClampNeg), .int x6, .int ((x7 + (1 : Int32)) * x2), .int x3]) (rest := []) (mX11_bears (l := l) (E := E) (ids := ids) hY he2) (by decide) rfl hl.1 rfl (Nat.le_of_ble_eq_true rfl) dX11_bear_115 ⟨Nat.le_refl _, Nat.le_refl _⟩) (fun H locs hw => ?_)
      refine lv_if_eq (tgt := 127) C.1 C.2.1 dX11_bear_118 (by decide) (fun hc5 => ?_) (fun hc5 => ?_)
      · replace hf := ea_if_t hc5 hf
        exact hk127 _ _ _ _ _ _ _ _ _ hf hw (lv_sub hl [0, 1, 2, 3, 5, 7] rfl)
      · replace hf := ea_if_f hc5 hf
        refine lv_iinc (v := x7 + (1 : Int32)) (lv' := [(7, .int (x7 + (1 : Int32))), (0, .ref (E.1 100)), (1, .int x1), (2, .int x2), (3, .int x3), (4, .int x4), (5, .int x5), (6, .int x6)]) C.1 C.2.1 dX11_bear_121 hl (k := 7) rfl rfl (by decide) rfl (fun ls hl => ?_)
        refine lv_goto (tgt := 92) C.1 C.2.1 dX11_bear_124 (by decide) ?_
        exact ih _ _ _ _ _ _ _ _ _ _ _ hf hw (lv_sub hl [1, 2, 3, 4, 5, 6, 7, 0] rfl)
set_option maxHeartbeats 4000000 in
set_option maxRecDepth 20000 in
theorem wX11_bear_131 (C : ea_C p s m args meth cd cX11_bear 8 (some .int) RX11) (hY : ea_Y ids) {k36 : Int32 → Int32 → Int32 → Int32 → Int32 → eM → Option (Int32 × eM)} (hk36 : ∀ (x1 : Int32) (x2 : Int32) (x3 : Int32) (x4 : Int32) (x5 : Int32) (M : eM) (H : Heap) (locs : List Loc) (ls : Array Slot), k36 x1 x2 x3 x4 x5 M = some res → ea_w E ids M s H locs → lv_has ls 8 [(0, .ref (E.1 100)), (1, .int x1), (2, .int x2), (3, .int x3), (4, .int x4), (5, .int x5)] → W p l e (ea_rm 6 143) s m args below meth cd H locs 0 0 (MQ below (ea_Qi E ids res) args s 0 0 (ea_Ad E ids)) (F0 m 36 ls [])) : ∀ (x1 : Int32) (x2 : Int32) (x3 : Int32) (x4 : Int32) (x5 : Int32) (M : eM) (H : Heap) (locs : List Loc) (ls : Array Slot), fX11_bear_131 k36 x1 x2 x3 x4 x5 M = some res → ea_w E ids M s H locs → lv_has ls 8 [(0, .ref (E.1 100)), (1, .int x1), (2, .int x2), (3, .int x3), (4, .int x4), (5, .int x5)] → W p l e (ea_rm 6 143) s m args below meth cd H locs 0 0 (MQ below (ea_Qi E ids res) args s 0 0 (ea_Ad E ids)) (F0 m 131 ls []) := by
  intro x1 x2 x3 x4 x5 M H locs ls hf  hw hl
  replace hf := (fX11_bear_131.eq_1 ..).symm.trans hf
  refine lv_iinc (v := x5 + (1 : Int32)) (lv' := [(5, .int (x5 + (1 : Int32))), (0, .ref (E.1 100)), (1, .int x1), (2, .int x2), (3, .int x3), (4, .int x4)]) C.1 C.2.1 dX11_bear_131 hl (k := 5) rfl rfl (by decide) rfl (fun ls hl => ?_)
  refine lv_goto (tgt := 36) C.1 C.2.1 dX11_bear_134 (by decide) ?_
  exact hk36 _ _ _ _ _ _ _ _ _ hf hw (lv_sub hl [1, 2, 3, 4, 5, 0] rfl)
set_option maxHeartbeats 4000000 in
set_option maxRecDepth 20000 in
theorem wX11_bear_127 (C : ea_C p s m args meth cd cX11_bear 8 (some .int) RX11) (hY : ea_Y ids) {k36 : Int32 → Int32 → Int32 → Int32 → Int32 → eM → Option (Int32 × eM)} (hk36 : ∀ (x1 : Int32) (x2 : Int32) (x3 : Int32) (x4 : Int32) (x5 : Int32) (M : eM) (H : Heap) (locs : List Loc) (ls : Array Slot), k36 x1 x2 x3 x4 x5 M = some res → ea_w E ids M s H locs → lv_has ls 8 [(0, .ref (E.1 100)), (1, .int x1), (2, .int x2), (3, .int x3), (4, .int x4), (5, .int x5)] → W p l e (ea_rm 6 143) s m args below meth cd H locs 0 0 (MQ below (ea_Qi E ids res) args s 0 0 (ea_Ad E ids)) (F0 m 36 ls [])) : ∀ (x1 : Int32) (x2 : Int32) (x3 : Int32) (x5 : Int32) (x7 : Int32) (M : eM) (H : Heap) (locs : List Loc) (ls : Array Slot), fX11_bear_127 k36 x1 x2 x3 x5 x7 M = some res → ea_w E ids M s H locs → lv_has ls 8 [(0, .ref (E.1 100)), (1, .int x1), (2, .int x2), (3, .int x3), (5, .int x5), (7, .int x7)] → W p l e (ea_rm 6 143) s m args below meth cd H locs 0 0 (MQ below (ea_Qi E ids res) args s 0 0 (ea_Ad E ids)) (F0 m 127 ls []) := by
  intro x1 x2 x3 x5 x7 M H locs ls hf  hw hl
  replace hf := (fX11_bear_127.eq_1 ..).symm.trans hf
  refine lv_iload C.1 C.2.1 dX11_bear_127 (lv_at hl 5 rfl) ?_
  refine lv_istore (lv' := [(4, .int x7), (0, .ref (E.1 100)), (1, .int x1), (2, .int x2), (3, .int x3), (5, .int x5), (7, .int x7)]) C.1 C.2.1 dX11_bear_129 hl (by decide) rfl (fun ls hl => ?_)
  exact wX11_bear_131 C hY hk36 _ _ _ _ _ _ _ _ _ hf hw (lv_sub hl [1, 2, 3, 4, 0, 5] rfl)
set_option maxHeartbeats 4000000 in
set_option maxRecDepth 20000 in
theorem wX11_bear_36 (C : ea_C p s m args meth cd cX11_bear 8 (some .int) RX11) (hY : ea_Y ids) : ∀ (n : Nat) (x1 : Int32) (x2 : Int32) (x3 : Int32) (x4 : Int32) (x5 : Int32) (M : eM) (H : Heap) (locs : List Loc) (ls : Array Slot), fX11_bear_36 n x1 x2 x3 x4 x5 M = some res → ea_w E ids M s H locs → lv_has ls 8 [(0, .ref (E.1 100)), (1, .int x1), (2, .int x2), (3, .int x3), (4, .int x4), (5, .int x5)] → W p l e (ea_rm 6 143) s m args below meth cd H locs 0 0 (MQ below (ea_Qi E ids res) args s 0 0 (ea_Ad E ids)) (F0 m 36 ls []) := by
  intro n
  induction n with
  | zero => intro x1 x2 x3 x4 x5 M H locs ls hf; cases hf
  | succ n ih =>
    intro x1 x2 x3 x4 x5 M H locs ls hf  hw hl
    replace hf := (fX11_bear_36.eq_2 ..).symm.trans hf
    refine lv_iload C.1 C.2.1 dX11_bear_36 (lv_at hl 5 rfl) ?_
    refine lv_aload_n C.1 C.2.1 dX11_bear_38 rfl (lv_at hl 0 rfl) ?_
    obtain ⟨r2, M3, he1, hf⟩ := ea_ci_s hf
    refine ea_runi2 hw (cl_X11_222 C hw (hY 100 11 rfl) (As := []) (rest := [.int x5]) (mX11_cells (l := l) (E := E) (ids := ids) hY he1) (by decide) rfl hl.1 rfl (Nat.le_of_ble_eq_true rfl) dX11_bear_39 ⟨Nat.le_refl _, Nat.le_refl _⟩) (fun H locs hw => ?_)
    refine lv_icmp_ge (tgt := 137) C.1 C.2.1 dX11_bear_42 (by decide) (fun hc4 => ?_) (fun hc4 => ?_)
    · replace hf := ea_if_t hc4 hf
      refine lv_iload C.1 C.2.1 dX11_bear_137 (lv_at hl 4 rfl) ?_
      exact ea_iret C hw hf dX11_bear_139
    · replace hf := ea_if_f hc4 hf
      refine lv_aload_n C.1 C.2.1 dX11_bear_45 rfl (lv_at hl 0 rfl) ?_
      refine lv_iload C.1 C.2.1 dX11_bear_46 (lv_at hl 5 rfl) ?_
      refine lv_iload_n C.1 C.2.1 dX11_bear_48 rfl (lv_at hl 1 rfl) ?_
      refine lv_sipush (v := 999) C.1 C.2.1 dX11_bear_49 (by decide) ?_
      obtain ⟨M6, he5, hf⟩ := ea_cv_s hf
      refine ea_runv hw (cl_X11_313 C hw (hY 100 11 rfl) (As := [.int x5, .int x1, .int (999 : Int32)]) (rest := []) (mX11_findFits (l := l) (E := E) (ids := ids) hY he5) (by decide) rfl hl.1 rfl (Nat.le_of_ble_eq_true rfl) dX11_bear_52 ⟨Nat.le_refl _, Nat.le_refl _⟩) (fun H locs hw => ?_)
      refine lv_aload_n C.1 C.2.1 dX11_bear_55 rfl (lv_at hl 0 rfl) ?_
      refine gf_X11_300 C hw (hY 100 11 rfl) dX11_bear_56 ?_
      refine lv_iconst (v := 1) C.1 C.2.1 dX11_bear_59 (by decide) ?_
      refine lv_icmp_eq (tgt := 66) C.1 C.2.1 dX11_bear_60 (by decide) (fun hc7 => ?_) (fun hc7 => ?_)
      · replace hf := ea_if_t hc7 hf
        refine lv_aload_n C.1 C.2.1 dX11_bear_66 rfl (lv_at hl 0 rfl) ?_
        refine lv_iload_n C.1 C.2.1 dX11_bear_67 rfl (lv_at hl 1 rfl) ?_
        refine lv_iload C.1 C.2.1 dX11_bear_68 (lv_at hl 5 rfl) ?_
        refine lv_aload_n C.1 C.2.1 dX11_bear_70 rfl (lv_at hl 0 rfl) ?_
        refine gf_X11_17 C hw (hY 100 11 rfl) dX11_bear_71 ?_
        refine W.eq (g2 := F0 m 74 ls [.ref (E.1 102), .int x5, .int x1, .ref (E.1 100)]) rfl ?_
        refine lv_iconst (v := 0) C.1 C.2.1 dX11_bear_74 (by decide) ?_
        refine ea_iald C hw (show ea_ok ids 102 20 from ok_11_12 (hY 100 11 rfl)) (by decide) dX11_bear_75 ?_
        obtain ⟨hc8, hf⟩ := ea_ck_s hf
        refine lv_irem C.1 C.2.1 dX11_bear_76 (ea_nz_s hc8) ?_
        refine lv_aload_n C.1 C.2.1 dX11_bear_77 rfl (lv_at hl 0 rfl) ?_
        refine gf_X11_74 C hw (hY 100 11 rfl) dX11_bear_78 ?_
        refine W.eq (g2 := F0 m 81 ls [.ref (E.1 120), .int (x5 - x5 / (M6.1 102 (0 : Int32).toNatClampNeg) * (M6.1 102 (0 : Int32).toNatClampNeg)), .int x1, .ref (E.1 100)]) rfl ?_
        refine lv_iconst (v := 0) C.1 C.2.1 dX11_bear_81 (by decide) ?_
        refine ea_iald C hw (show ea_ok ids 120 20 from ok_11_36 (hY 100 11 rfl)) (by decide) dX11_bear_82 ?_
        refine lv_iconst (v := 0) C.1 C.2.1 dX11_bear_83 (by decide) ?_
        obtain ⟨r10, M11, he9, hf⟩ := ea_ci_s hf
        refine ea_runi2 hw (cl_X11_244 C hw (hY 100 11 rfl) (As := [.int x1, .int (x5 - x5 / (M6.1 102 (0 : Int32).toNatClampNeg) * (M6.1 102 (0 : Int32).toNatClampNeg)), .int (M6.1 120 (0 : Int32).toNatClampNeg), .int (0 : Int32)]) (rest := []) (mX11_hoursOf (l := l) (E := E) (ids := ids) hY he9) (by decide) rfl hl.1 rfl (Nat.le_of_ble_eq_true rfl) dX11_bear_84 ⟨Nat.le_refl _, Nat.le_refl _⟩) (fun H locs hw => ?_)
        refine lv_istore (lv' := [(6, .int r10), (0, .ref (E.1 100)), (1, .int x1), (2, .int x2), (3, .int x3), (4, .int x4), (5, .int x5)]) C.1 C.2.1 dX11_bear_87 hl (by decide) rfl (fun ls hl => ?_)
        refine lv_iconst (v := 0) C.1 C.2.1 dX11_bear_89 (by decide) ?_
        refine lv_istore (lv' := [(7, .int (0 : Int32)), (6, .int r10), (0, .ref (E.1 100)), (1, .int x1), (2, .int x2), (3, .int x3), (4, .int x4), (5, .int x5)]) C.1 C.2.1 dX11_bear_90 hl (by decide) rfl (fun ls hl => ?_)
        exact wX11_bear_92 C hY (wX11_bear_127 C hY ih) ea_N _ _ _ _ _ _ _ _ _ _ _ hf hw (lv_sub hl [2, 3, 4, 5, 6, 7, 1, 0] rfl)
      · replace hf := ea_if_f hc7 hf
        refine lv_goto (tgt := 131) C.1 C.2.1 dX11_bear_63 (by decide) ?_
        exact wX11_bear_131 C hY ih _ _ _ _ _ _ _ _ _ hf hw (lv_sub hl [0, 1, 2, 3, 4, 5] rfl)
set_option maxHeartbeats 4000000 in
set_option maxRecDepth 20000 in
theorem wX11_bear_0 (C : ea_C p s m args meth cd cX11_bear 8 (some .int) RX11) (hY : ea_Y ids) : ∀ (x1 : Int32) (x2 : Int32) (x3 : Int32) (M : eM) (H : Heap) (locs : List Loc) (ls : Array Slot), fX11_bear_0 x1 x2 x3 M = some res → ea_w E ids M s H locs → lv_has ls 8 [(0, .ref (E.1 100)), (1, .int x1), (2, .int x2), (3, .int x3)] → W p l e (ea_rm 6 143) s m args below meth cd H locs 0 0 (MQ below (ea_Qi E ids res) args s 0 0 (ea_Ad E ids)) (F0 m 0 ls []) := by
  intro x1 x2 x3 M H locs ls hf  hw hl
  replace hf := (fX11_bear_0.eq_1 ..).symm.trans hf
  refine lv_aload_n C.1 C.2.1 dX11_bear_0 rfl (lv_at hl 0 rfl) ?_
  refine lv_iload_n C.1 C.2.1 dX11_bear_1 rfl (lv_at hl 1 rfl) ?_
  obtain ⟨r2, M3, he1, hf⟩ := ea_ci_s hf
  refine ea_runi2 hw (cl_X11_225 C hw (hY 100 11 rfl) (As := [.int x1]) (rest := []) (mX11_isStory (l := l) (E := E) (ids := ids) hY he1) (by decide) rfl hl.1 rfl (Nat.le_of_ble_eq_true rfl) dX11_bear_2 ⟨Nat.le_refl _, Nat.le_refl _⟩) (fun H locs hw => ?_)
  refine lv_if_eq (tgt := 25) C.1 C.2.1 dX11_bear_5 (by decide) (fun hc4 => ?_) (fun hc4 => ?_)
  · replace hf := ea_if_t hc4 hf
    refine lv_bipush (v := (-2 : Int32)) C.1 C.2.1 dX11_bear_25 (by decide) ?_
    exact ea_iret C hw hf dX11_bear_27
  · replace hf := ea_if_f hc4 hf
    refine lv_iload_n C.1 C.2.1 dX11_bear_8 rfl (lv_at hl 2 rfl) ?_
    refine lv_iconst (v := 1) C.1 C.2.1 dX11_bear_9 (by decide) ?_
    refine lv_bipush (v := 99) C.1 C.2.1 dX11_bear_10 (by decide) ?_
    obtain ⟨r6, M7, he5, hf⟩ := ea_ci_s hf
    refine ea_runi2 hw (cl_X11_172 C hw (As := [.int x2, .int (1 : Int32), .int (99 : Int32)]) (rest := []) (mX11_in (l := l) (E := E) (ids := ids) hY he5) (by decide) rfl hl.1 rfl (Nat.le_of_ble_eq_true rfl) dX11_bear_12 ⟨Nat.le_refl _, Nat.le_refl _⟩) (fun H locs hw => ?_)
    refine lv_if_eq (tgt := 25) C.1 C.2.1 dX11_bear_15 (by decide) (fun hc8 => ?_) (fun hc8 => ?_)
    · replace hf := ea_if_t hc8 hf
      refine lv_bipush (v := (-2 : Int32)) C.1 C.2.1 dX11_bear_25 (by decide) ?_
      exact ea_iret C hw hf dX11_bear_27
    · replace hf := ea_if_f hc8 hf
      refine lv_iload_n C.1 C.2.1 dX11_bear_18 rfl (lv_at hl 3 rfl) ?_
      obtain ⟨r10, M11, he9, hf⟩ := ea_ci_s hf
      refine ea_runi2 hw (cl_X11_320 C hw (As := [.int x3]) (rest := []) (mX11_isBound (l := l) (E := E) (ids := ids) hY he9) (by decide) rfl hl.1 rfl (Nat.le_of_ble_eq_true rfl) dX11_bear_19 ⟨Nat.le_refl _, Nat.le_refl _⟩) (fun H locs hw => ?_)
      refine lv_if_ne (tgt := 28) C.1 C.2.1 dX11_bear_22 (by decide) (fun hc12 => ?_) (fun hc12 => ?_)
      · replace hf := ea_if_f hc12 hf
        refine lv_sipush (v := 400) C.1 C.2.1 dX11_bear_28 (by decide) ?_
        refine lv_istore (lv' := [(4, .int (400 : Int32)), (0, .ref (E.1 100)), (1, .int x1), (2, .int x2), (3, .int x3)]) C.1 C.2.1 dX11_bear_31 hl (by decide) rfl (fun ls hl => ?_)
        refine lv_iconst (v := 0) C.1 C.2.1 dX11_bear_33 (by decide) ?_
        refine lv_istore (lv' := [(5, .int (0 : Int32)), (4, .int (400 : Int32)), (0, .ref (E.1 100)), (1, .int x1), (2, .int x2), (3, .int x3)]) C.1 C.2.1 dX11_bear_34 hl (by decide) rfl (fun ls hl => ?_)
        exact wX11_bear_36 C hY ea_N _ _ _ _ _ _ _ _ _ hf hw (lv_sub hl [2, 3, 4, 5, 1, 0] rfl)
      · replace hf := ea_if_t hc12 hf
        refine lv_bipush (v := (-2 : Int32)) C.1 C.2.1 dX11_bear_25 (by decide) ?_
        exact ea_iret C hw hf dX11_bear_27
set_option maxHeartbeats 4000000 in
set_option maxRecDepth 20000 in
theorem mX11_bear {l : Launch} {E : eE} {ids : List Nat} (hY : ea_Y ids) {x1 : Int32} {x2 : Int32} {x3 : Int32} {M : eM} {res : Int32 × eM} (hf : fX11_bear x1 x2 x3 M = some res) : ea_Mi l yX11_bear cX11_bear 8 (some .int) 6 143 E ids [.ref (E.1 100), .int x1, .int x2, .int x3] M res := by
  refine ea_goi (by decide) (Nat.le_of_ble_eq_true rfl) wc_X11_bear ?_
  intro p e s m below meth cd ls C hw hl
  exact wX11_bear_0 C hY _ _ _ _ _ _ _ hf hw hl
end SX11_bear

def fX11_begin_2 (k24 : eM → Option (eM)) : Nat → Int32 → eM → Option (eM)
  | 0, _, _ => none
  | n + 1, x1, M => if (14 : Int32) ≤ x1 then (k24 M) else (ea_ck (ea_ix ((14 : Int32) + x1) (ea_len 102)) (fX11_begin_2 k24 n (x1 + (1 : Int32)) (ea_pI M 102 (((14 : Int32) + x1).toNatClampNeg) (0 : Int32))))
def fX11_begin_50 (k72 : eM → Option (eM)) : Nat → Int32 → eM → Option (eM)
  | 0, _, _ => none
  | n + 1, x1, M => if (3 : Int32) ≤ x1 then (k72 M) else (ea_ck (ea_ix ((22 : Int32) + x1) (ea_len 102)) (fX11_begin_50 k72 n (x1 + (1 : Int32)) (ea_pI M 102 (((22 : Int32) + x1).toNatClampNeg) (100 : Int32))))
def fX11_begin_72 (M : eM) : Option (eM) := some (ea_pI M 100 21 (0 : Int32))
def fX11_begin_24 (M : eM) : Option (eM) := fX11_begin_50 (fX11_begin_72) ea_N (0 : Int32) (ea_pI (ea_pI (ea_pI M 102 ((14 : Int32).toNatClampNeg) (4 : Int32)) 102 ((15 : Int32).toNatClampNeg) (3 : Int32)) 102 ((17 : Int32).toNatClampNeg) (2 : Int32))
def fX11_begin_0 (M : eM) : Option (eM) := fX11_begin_2 (fX11_begin_24) ea_N (0 : Int32) M
def fX11_begin (M : eM) : Option (eM) := fX11_begin_0 M
section SX11_begin
variable {p : Program} {l : Launch} {e : Env} {s : State} {m : MethodId} {args : Array Value} {below : List Frame} {meth : Method} {cd : Code} {E : eE} {ids : List Nat} {res : eM}
set_option maxHeartbeats 4000000 in
set_option maxRecDepth 20000 in
theorem wX11_begin_2 (C : ea_C p s m args meth cd cX11_begin 2 none RX11) (hY : ea_Y ids) {k24 : eM → Option (eM)} (hk24 : ∀  (M : eM) (H : Heap) (locs : List Loc) (ls : Array Slot), k24 M = some res → ea_w E ids M s H locs → lv_has ls 2 [(0, .ref (E.1 100))] → W p l e (ea_rm 0 0) s m args below meth cd H locs 0 0 (MQ below (ea_Qv E ids res) args s 0 0 (ea_Ad E ids)) (F0 m 24 ls [])) : ∀ (n : Nat) (x1 : Int32) (M : eM) (H : Heap) (locs : List Loc) (ls : Array Slot), fX11_begin_2 k24 n x1 M = some res → ea_w E ids M s H locs → lv_has ls 2 [(0, .ref (E.1 100)), (1, .int x1)] → W p l e (ea_rm 0 0) s m args below meth cd H locs 0 0 (MQ below (ea_Qv E ids res) args s 0 0 (ea_Ad E ids)) (F0 m 2 ls []) := by
  intro n
  induction n with
  | zero => intro x1 M H locs ls hf; cases hf
  | succ n ih =>
    intro x1 M H locs ls hf  hw hl
    replace hf := (fX11_begin_2.eq_2 ..).symm.trans hf
    refine lv_iload_n C.1 C.2.1 dX11_begin_2 rfl (lv_at hl 1 rfl) ?_
    refine lv_bipush (v := 14) C.1 C.2.1 dX11_begin_3 (by decide) ?_
    refine lv_icmp_ge (tgt := 24) C.1 C.2.1 dX11_begin_5 (by decide) (fun hc1 => ?_) (fun hc1 => ?_)
    · replace hf := ea_if_t hc1 hf
      exact hk24 _ _ _ _ hf hw (lv_sub hl [0] rfl)
    · replace hf := ea_if_f hc1 hf
      refine lv_aload_n C.1 C.2.1 dX11_begin_8 rfl (lv_at hl 0 rfl) ?_
      refine gf_X11_17 C hw (hY 100 11 rfl) dX11_begin_9 ?_
      refine W.eq (g2 := F0 m 12 ls [.ref (E.1 102)]) rfl ?_
      refine lv_bipush (v := 14) C.1 C.2.1 dX11_begin_12 (by decide) ?_
      refine lv_iload_n C.1 C.2.1 dX11_begin_14 rfl (lv_at hl 1 rfl) ?_
      refine lv_iadd C.1 C.2.1 dX11_begin_15 ?_
      refine lv_iconst (v := 0) C.1 C.2.1 dX11_begin_16 (by decide) ?_
      obtain ⟨hc2, hf⟩ := ea_ck_s hf
      refine ea_iast C hw (show ea_ok ids 102 20 from ok_11_12 (hY 100 11 rfl)) hc2 dX11_begin_17 (fun H locs hw => ?_)
      refine lv_iinc (v := x1 + (1 : Int32)) (lv' := [(1, .int (x1 + (1 : Int32))), (0, .ref (E.1 100))]) C.1 C.2.1 dX11_begin_18 hl (k := 1) rfl rfl (by decide) rfl (fun ls hl => ?_)
      refine lv_goto (tgt := 2) C.1 C.2.1 dX11_begin_21 (by decide) ?_
      exact ih _ _ _ _ _ hf hw (lv_sub hl [1, 0] rfl)
set_option maxHeartbeats 4000000 in
set_option maxRecDepth 20000 in
theorem wX11_begin_50 (C : ea_C p s m args meth cd cX11_begin 2 none RX11) (hY : ea_Y ids) {k72 : eM → Option (eM)} (hk72 : ∀  (M : eM) (H : Heap) (locs : List Loc) (ls : Array Slot), k72 M = some res → ea_w E ids M s H locs → lv_has ls 2 [(0, .ref (E.1 100))] → W p l e (ea_rm 0 0) s m args below meth cd H locs 0 0 (MQ below (ea_Qv E ids res) args s 0 0 (ea_Ad E ids)) (F0 m 72 ls [])) : ∀ (n : Nat) (x1 : Int32) (M : eM) (H : Heap) (locs : List Loc) (ls : Array Slot), fX11_begin_50 k72 n x1 M = some res → ea_w E ids M s H locs → lv_has ls 2 [(0, .ref (E.1 100)), (1, .int x1)] → W p l e (ea_rm 0 0) s m args below meth cd H locs 0 0 (MQ below (ea_Qv E ids res) args s 0 0 (ea_Ad E ids)) (F0 m 50 ls []) := by
  intro n
  induction n with
  | zero => intro x1 M H locs ls hf; cases hf
  | succ n ih =>
    intro x1 M H locs ls hf  hw hl
    replace hf := (fX11_begin_50.eq_2 ..).symm.trans hf
    refine lv_iload_n C.1 C.2.1 dX11_begin_50 rfl (lv_at hl 1 rfl) ?_
    refine lv_iconst (v := 3) C.1 C.2.1 dX11_begin_51 (by decide) ?_
    refine lv_icmp_ge (tgt := 72) C.1 C.2.1 dX11_begin_52 (by decide) (fun hc1 => ?_) (fun hc1 => ?_)
    · replace hf := ea_if_t hc1 hf
      exact hk72 _ _ _ _ hf hw (lv_sub hl [0] rfl)
    · replace hf := ea_if_f hc1 hf
      refine lv_aload_n C.1 C.2.1 dX11_begin_55 rfl (lv_at hl 0 rfl) ?_
      refine gf_X11_17 C hw (hY 100 11 rfl) dX11_begin_56 ?_
      refine W.eq (g2 := F0 m 59 ls [.ref (E.1 102)]) rfl ?_
      refine lv_bipush (v := 22) C.1 C.2.1 dX11_begin_59 (by decide) ?_
      refine lv_iload_n C.1 C.2.1 dX11_begin_61 rfl (lv_at hl 1 rfl) ?_
      refine lv_iadd C.1 C.2.1 dX11_begin_62 ?_
      refine lv_bipush (v := 100) C.1 C.2.1 dX11_begin_63 (by decide) ?_
      obtain ⟨hc2, hf⟩ := ea_ck_s hf
      refine ea_iast C hw (show ea_ok ids 102 20 from ok_11_12 (hY 100 11 rfl)) hc2 dX11_begin_65 (fun H locs hw => ?_)
      refine lv_iinc (v := x1 + (1 : Int32)) (lv' := [(1, .int (x1 + (1 : Int32))), (0, .ref (E.1 100))]) C.1 C.2.1 dX11_begin_66 hl (k := 1) rfl rfl (by decide) rfl (fun ls hl => ?_)
      refine lv_goto (tgt := 50) C.1 C.2.1 dX11_begin_69 (by decide) ?_
      exact ih _ _ _ _ _ hf hw (lv_sub hl [1, 0] rfl)
set_option maxHeartbeats 4000000 in
set_option maxRecDepth 20000 in
theorem wX11_begin_72 (C : ea_C p s m args meth cd cX11_begin 2 none RX11) (hY : ea_Y ids) : ∀  (M : eM) (H : Heap) (locs : List Loc) (ls : Array Slot), fX11_begin_72 M = some res → ea_w E ids M s H locs → lv_has ls 2 [(0, .ref (E.1 100))] → W p l e (ea_rm 0 0) s m args below meth cd H locs 0 0 (MQ below (ea_Qv E ids res) args s 0 0 (ea_Ad E ids)) (F0 m 72 ls []) := by
  intro M H locs ls hf  hw hl
  replace hf := (fX11_begin_72.eq_1 ..).symm.trans hf
  refine lv_aload_n C.1 C.2.1 dX11_begin_72 rfl (lv_at hl 0 rfl) ?_
  refine lv_iconst (v := 0) C.1 C.2.1 dX11_begin_73 (by decide) ?_
  refine pu_X11_182 C hw (hY 100 11 rfl) dX11_begin_74 (fun H locs hw => ?_)
  exact ea_vret C hw hf dX11_begin_77
set_option maxHeartbeats 4000000 in
set_option maxRecDepth 20000 in
theorem wX11_begin_24 (C : ea_C p s m args meth cd cX11_begin 2 none RX11) (hY : ea_Y ids) : ∀  (M : eM) (H : Heap) (locs : List Loc) (ls : Array Slot), fX11_begin_24 M = some res → ea_w E ids M s H locs → lv_has ls 2 [(0, .ref (E.1 100))] → W p l e (ea_rm 0 0) s m args below meth cd H locs 0 0 (MQ below (ea_Qv E ids res) args s 0 0 (ea_Ad E ids)) (F0 m 24 ls []) := by
  intro M H locs ls hf  hw hl
  replace hf := (fX11_begin_24.eq_1 ..).symm.trans hf
  refine lv_aload_n C.1 C.2.1 dX11_begin_24 rfl (lv_at hl 0 rfl) ?_
  refine gf_X11_17 C hw (hY 100 11 rfl) dX11_begin_25 ?_
  refine W.eq (g2 := F0 m 28 ls [.ref (E.1 102)]) rfl ?_
  refine lv_bipush (v := 14) C.1 C.2.1 dX11_begin_28 (by decide) ?_
  refine lv_iconst (v := 4) C.1 C.2.1 dX11_begin_30 (by decide) ?_
  refine ea_iast C hw (show ea_ok ids 102 20 from ok_11_12 (hY 100 11 rfl)) (by decide) dX11_begin_31 (fun H locs hw => ?_)
  refine lv_aload_n C.1 C.2.1 dX11_begin_32 rfl (lv_at hl 0 rfl) ?_
  refine gf_X11_17 C hw (hY 100 11 rfl) dX11_begin_33 ?_
  refine W.eq (g2 := F0 m 36 ls [.ref (E.1 102)]) rfl ?_
  refine lv_bipush (v := 15) C.1 C.2.1 dX11_begin_36 (by decide) ?_
  refine lv_iconst (v := 3) C.1 C.2.1 dX11_begin_38 (by decide) ?_
  refine ea_iast C hw (show ea_ok ids 102 20 from ok_11_12 (hY 100 11 rfl)) (by decide) dX11_begin_39 (fun H locs hw => ?_)
  refine lv_aload_n C.1 C.2.1 dX11_begin_40 rfl (lv_at hl 0 rfl) ?_
  refine gf_X11_17 C hw (hY 100 11 rfl) dX11_begin_41 ?_
  refine W.eq (g2 := F0 m 44 ls [.ref (E.1 102)]) rfl ?_
  refine lv_bipush (v := 17) C.1 C.2.1 dX11_begin_44 (by decide) ?_
  refine lv_iconst (v := 2) C.1 C.2.1 dX11_begin_46 (by decide) ?_
  refine ea_iast C hw (show ea_ok ids 102 20 from ok_11_12 (hY 100 11 rfl)) (by decide) dX11_begin_47 (fun H locs hw => ?_)
  refine lv_iconst (v := 0) C.1 C.2.1 dX11_begin_48 (by decide) ?_
  refine lv_istore_n (lv' := [(1, .int (0 : Int32)), (0, .ref (E.1 100))]) C.1 C.2.1 dX11_begin_49 rfl hl (by decide) rfl (fun ls hl => ?_)
  exact wX11_begin_50 C hY (wX11_begin_72 C hY) ea_N _ _ _ _ _ hf hw (lv_sub hl [1, 0] rfl)
set_option maxHeartbeats 4000000 in
set_option maxRecDepth 20000 in
theorem wX11_begin_0 (C : ea_C p s m args meth cd cX11_begin 2 none RX11) (hY : ea_Y ids) : ∀  (M : eM) (H : Heap) (locs : List Loc) (ls : Array Slot), fX11_begin_0 M = some res → ea_w E ids M s H locs → lv_has ls 2 [(0, .ref (E.1 100))] → W p l e (ea_rm 0 0) s m args below meth cd H locs 0 0 (MQ below (ea_Qv E ids res) args s 0 0 (ea_Ad E ids)) (F0 m 0 ls []) := by
  intro M H locs ls hf  hw hl
  replace hf := (fX11_begin_0.eq_1 ..).symm.trans hf
  refine lv_iconst (v := 0) C.1 C.2.1 dX11_begin_0 (by decide) ?_
  refine lv_istore_n (lv' := [(1, .int (0 : Int32)), (0, .ref (E.1 100))]) C.1 C.2.1 dX11_begin_1 rfl hl (by decide) rfl (fun ls hl => ?_)
  exact wX11_begin_2 C hY (wX11_begin_24 C hY) ea_N _ _ _ _ _ hf hw (lv_sub hl [1, 0] rfl)
set_option maxHeartbeats 4000000 in
set_option maxRecDepth 20000 in
theorem mX11_begin {l : Launch} {E : eE} {ids : List Nat} (hY : ea_Y ids) {M : eM} {res : eM} (hf : fX11_begin M = some res) : ea_Mv l yX11_begin cX11_begin 2 0 0 E ids [.ref (E.1 100)] M res := by
  refine ea_gov (by decide) (Nat.le_of_ble_eq_true rfl) wc_X11_begin ?_
  intro p e s m below meth cd ls C hw hl
  exact wX11_begin_0 C hY  _ _ _ _ hf hw hl
end SX11_begin

def fX11_isStep_0 (x0 : Int32) (M : eM) : Option (Int32 × eM) := ea_ci (fX11_in x0 (0 : Int32) (999 : Int32) M) (fun r2 M3 => ea_ck (ea_01 r2) (some (r2, M3)))
def fX11_isStep (x0 : Int32) (M : eM) : Option (Int32 × eM) := fX11_isStep_0 x0 M
section SX11_isStep
variable {p : Program} {l : Launch} {e : Env} {s : State} {m : MethodId} {args : Array Value} {below : List Frame} {meth : Method} {cd : Code} {E : eE} {ids : List Nat} {res : Int32 × eM}
set_option maxHeartbeats 4000000 in
set_option maxRecDepth 20000 in
theorem wX11_isStep_0 (C : ea_C p s m args meth cd cX11_isStep 1 (some .boolean) RX11) (hY : ea_Y ids) : ∀ (x0 : Int32) (M : eM) (H : Heap) (locs : List Loc) (ls : Array Slot), fX11_isStep_0 x0 M = some res → ea_w E ids M s H locs → lv_has ls 1 [(0, .int x0)] → W p l e (ea_rm 1 22) s m args below meth cd H locs 0 0 (MQ below (ea_Qi E ids res) args s 0 0 (ea_Ad E ids)) (F0 m 0 ls []) := by
  intro x0 M H locs ls hf  hw hl
  replace hf := (fX11_isStep_0.eq_1 ..).symm.trans hf
  refine lv_iload_n C.1 C.2.1 dX11_isStep_0 rfl (lv_at hl 0 rfl) ?_
  refine lv_iconst (v := 0) C.1 C.2.1 dX11_isStep_1 (by decide) ?_
  refine lv_sipush (v := 999) C.1 C.2.1 dX11_isStep_2 (by decide) ?_
  obtain ⟨r2, M3, he1, hf⟩ := ea_ci_s hf
  refine ea_runi2 hw (cl_X11_172 C hw (As := [.int x0, .int (0 : Int32), .int (999 : Int32)]) (rest := []) (mX11_in (l := l) (E := E) (ids := ids) hY he1) (by decide) rfl hl.1 rfl (Nat.le_of_ble_eq_true rfl) dX11_isStep_5 ⟨Nat.le_refl _, Nat.le_refl _⟩) (fun H locs hw => ?_)
  obtain ⟨hc4, hf⟩ := ea_ck_s hf
  exact ea_zret C hw (ea_01_s hc4) hf dX11_isStep_8
set_option maxHeartbeats 4000000 in
set_option maxRecDepth 20000 in
theorem mX11_isStep {l : Launch} {E : eE} {ids : List Nat} (hY : ea_Y ids) {x0 : Int32} {M : eM} {res : Int32 × eM} (hf : fX11_isStep x0 M = some res) : ea_Mi l yX11_isStep cX11_isStep 1 (some .boolean) 1 22 E ids [.int x0] M res := by
  refine ea_goi (by decide) (Nat.le_of_ble_eq_true rfl) wc_X11_isStep ?_
  intro p e s m below meth cd ls C hw hl
  exact wX11_isStep_0 C hY _ _ _ _ _ hf hw hl
end SX11_isStep
