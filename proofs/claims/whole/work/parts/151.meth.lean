def fX11_readMended_45 (x1 : Int32) (t0 : Int32) (M : eM) : Option (Int32 × eM) := ea_ci (fX11_readNumber t0 (999 : Int32) M) (fun r2 M3 => if r2 = 0 then (some ((0 : Int32), M3)) else (ea_ck (ea_ix ((25 : Int32) + x1) (ea_len 102)) (some ((1 : Int32), ea_pI (ea_pI M3 102 (((25 : Int32) + x1).toNatClampNeg) (M3.1 100 11)) 102 ((21 : Int32).toNatClampNeg) (((ea_pI M3 102 (((25 : Int32) + x1).toNatClampNeg) (M3.1 100 11)).1 102 (21 : Int32).toNatClampNeg) + (1 : Int32))))))
def fX11_readMended_0 (M : eM) : Option (Int32 × eM) := ea_lt (M.1 102 (21 : Int32).toNatClampNeg) (fun y1 => if y1 = (3 : Int32) then (ea_ci (fX11_fails (4 : Int32) M) (fun r9 M10 => ea_ck (ea_01 r9) (some (r9, M10)))) else (ea_cv (fX11_scan M) (fun M5 => if y1 = 0 then (fX11_readMended_45 y1 (1 : Int32) M5) else (ea_ck (ea_ix (((25 : Int32) + y1) - (1 : Int32)) (ea_len 102)) (fX11_readMended_45 y1 ((M5.1 102 (((25 : Int32) + y1) - (1 : Int32)).toNatClampNeg) + (1 : Int32)) M5)))))
def fX11_readMended (M : eM) : Option (Int32 × eM) := fX11_readMended_0 M
section SX11_readMended
variable {p : Program} {l : Launch} {e : Env} {s : State} {m : MethodId} {args : Array Value} {below : List Frame} {meth : Method} {cd : Code} {E : eE} {ids : List Nat} {res : Int32 × eM}
set_option maxHeartbeats 4000000 in
set_option maxRecDepth 20000 in
theorem wX11_readMended_45 (C : ea_C p s m args meth cd cX11_readMended 2 (some .boolean) RX11) (hY : ea_Y ids) : ∀ (x1 : Int32) (t0 : Int32) (M : eM) (H : Heap) (locs : List Loc) (ls : Array Slot), fX11_readMended_45 x1 t0 M = some res → ea_w E ids M s H locs → lv_has ls 2 [(0, .ref (E.1 100)), (1, .int x1)] → W p l e (ea_rm 7 157) s m args below meth cd H locs 0 0 (MQ below (ea_Qi E ids res) args s 0 0 (ea_Ad E ids)) (F0 m 45 ls [.int t0, .ref (E.1 100)]) := by
  intro x1 t0 M H locs ls hf  hw hl
  replace hf := (fX11_readMended_45.eq_1 ..).symm.trans hf
  refine lv_sipush (v := 999) C.1 C.2.1 dX11_readMended_45 (by decide) ?_
  obtain ⟨r2, M3, he1, hf⟩ := ea_ci_s hf
  refine ea_runi2 hw (cl_X11_196 C hw (hY 100 11 rfl) (As := [.int t0, .int (999 : Int32)]) (rest := []) (mX11_readNumber (l := l) (E := E) (ids := ids) hY he1) (by decide) rfl hl.1 rfl (Nat.le_of_ble_eq_true rfl) dX11_readMended_48 ⟨Nat.le_refl _, Nat.le_refl _⟩) (fun H locs hw => ?_)
  refine lv_if_ne (tgt := 56) C.1 C.2.1 dX11_readMended_51 (by decide) (fun hc4 => ?_) (fun hc4 => ?_)
  · replace hf := ea_if_f hc4 hf
    refine lv_aload_n C.1 C.2.1 dX11_readMended_56 rfl (lv_at hl 0 rfl) ?_
    refine gf_X11_17 C hw (hY 100 11 rfl) dX11_readMended_57 ?_
    refine W.eq (g2 := F0 m 60 ls [.ref (E.1 102)]) rfl ?_
    refine lv_bipush (v := 25) C.1 C.2.1 dX11_readMended_60 (by decide) ?_
    refine lv_iload_n C.1 C.2.1 dX11_readMended_62 rfl (lv_at hl 1 rfl) ?_
    refine lv_iadd C.1 C.2.1 dX11_readMended_63 ?_
    refine lv_aload_n C.1 C.2.1 dX11_readMended_64 rfl (lv_at hl 0 rfl) ?_
    refine gf_X11_176 C hw (hY 100 11 rfl) dX11_readMended_65 ?_
    obtain ⟨hc5, hf⟩ := ea_ck_s hf
    refine ea_iast C hw (show ea_ok ids 102 20 from ok_11_12 (hY 100 11 rfl)) hc5 dX11_readMended_68 (fun H locs hw => ?_)
    refine lv_aload_n C.1 C.2.1 dX11_readMended_69 rfl (lv_at hl 0 rfl) ?_
    refine gf_X11_17 C hw (hY 100 11 rfl) dX11_readMended_70 ?_
    refine W.eq (g2 := F0 m 73 ls [.ref (E.1 102)]) rfl ?_
    refine lv_bipush (v := 21) C.1 C.2.1 dX11_readMended_73 (by decide) ?_
    refine lv_dup2_11 C.1 C.2.1 dX11_readMended_75 rfl rfl ?_
    refine ea_iald C hw (show ea_ok ids 102 20 from ok_11_12 (hY 100 11 rfl)) (by decide) dX11_readMended_76 ?_
    refine lv_iconst (v := 1) C.1 C.2.1 dX11_readMended_77 (by decide) ?_
    refine lv_iadd C.1 C.2.1 dX11_readMended_78 ?_
    refine ea_iast C hw (show ea_ok ids 102 20 from ok_11_12 (hY 100 11 rfl)) (by decide) dX11_readMended_79 (fun H locs hw => ?_)
    refine lv_iconst (v := 1) C.1 C.2.1 dX11_readMended_80 (by decide) ?_
    exact ea_zret C hw (by decide) hf dX11_readMended_81
  · replace hf := ea_if_t hc4 hf
    refine lv_iconst (v := 0) C.1 C.2.1 dX11_readMended_54 (by decide) ?_
    exact ea_zret C hw (by decide) hf dX11_readMended_55
set_option maxHeartbeats 4000000 in
set_option maxRecDepth 20000 in
theorem wX11_readMended_0 (C : ea_C p s m args meth cd cX11_readMended 2 (some .boolean) RX11) (hY : ea_Y ids) : ∀  (M : eM) (H : Heap) (locs : List Loc) (ls : Array Slot), fX11_readMended_0 M = some res → ea_w E ids M s H locs → lv_has ls 2 [(0, .ref (E.1 100))] → W p l e (ea_rm 7 157) s m args below meth cd H locs 0 0 (MQ below (ea_Qi E ids res) args s 0 0 (ea_Ad E ids)) (F0 m 0 ls []) := by
  intro M H locs ls hf  hw hl
  replace hf := (fX11_readMended_0.eq_1 ..).symm.trans hf
  refine lv_aload_n C.1 C.2.1 dX11_readMended_0 rfl (lv_at hl 0 rfl) ?_
  refine gf_X11_17 C hw (hY 100 11 rfl) dX11_readMended_1 ?_
  refine W.eq (g2 := F0 m 4 ls [.ref (E.1 102)]) rfl ?_
  refine lv_bipush (v := 21) C.1 C.2.1 dX11_readMended_4 (by decide) ?_
  refine ea_iald C hw (show ea_ok ids 102 20 from ok_11_12 (hY 100 11 rfl)) (by decide) dX11_readMended_6 ?_
  obtain ⟨y1, ey2, hf⟩ := ea_lt_s hf
  refine ea_topi ey2 ?_
  refine lv_istore_n (lv' := [(1, .int y1), (0, .ref (E.1 100))]) C.1 C.2.1 dX11_readMended_7 rfl hl (by decide) rfl (fun ls hl => ?_)
  refine lv_iload_n C.1 C.2.1 dX11_readMended_8 rfl (lv_at hl 0 rfl) ?_
  refine lv_iconst (v := 3) C.1 C.2.1 dX11_readMended_9 (by decide) ?_
  refine lv_icmp_ne (tgt := 19) C.1 C.2.1 dX11_readMended_10 (by decide) (fun hc3 => ?_) (fun hc3 => ?_)
  · replace hf := ea_if_f hc3 hf
    refine lv_aload_n C.1 C.2.1 dX11_readMended_19 rfl (lv_at hl 1 rfl) ?_
    obtain ⟨M5, he4, hf⟩ := ea_cv_s hf
    refine ea_runv hw (cl_X11_179 C hw (hY 100 11 rfl) (As := []) (rest := []) (mX11_scan (l := l) (E := E) (ids := ids) hY he4) (by decide) rfl hl.1 rfl (Nat.le_of_ble_eq_true rfl) dX11_readMended_20 ⟨Nat.le_refl _, Nat.le_refl _⟩) (fun H locs hw => ?_)
    refine lv_aload_n C.1 C.2.1 dX11_readMended_23 rfl (lv_at hl 1 rfl) ?_
    refine lv_iload_n C.1 C.2.1 dX11_readMended_24 rfl (lv_at hl 0 rfl) ?_
    refine lv_if_ne (tgt := 32) C.1 C.2.1 dX11_readMended_25 (by decide) (fun hc6 => ?_) (fun hc6 => ?_)
    · replace hf := ea_if_f hc6 hf
      refine lv_aload_n C.1 C.2.1 dX11_readMended_32 rfl (lv_at hl 1 rfl) ?_
      refine gf_X11_17 C hw (hY 100 11 rfl) dX11_readMended_33 ?_
      refine W.eq (g2 := F0 m 36 ls [.ref (E.1 102), .ref (E.1 100)]) rfl ?_
      refine lv_bipush (v := 25) C.1 C.2.1 dX11_readMended_36 (by decide) ?_
      refine lv_iload_n C.1 C.2.1 dX11_readMended_38 rfl (lv_at hl 0 rfl) ?_
      refine lv_iadd C.1 C.2.1 dX11_readMended_39 ?_
      refine lv_iconst (v := 1) C.1 C.2.1 dX11_readMended_40 (by decide) ?_
      refine lv_isub C.1 C.2.1 dX11_readMended_41 ?_
      obtain ⟨hc7, hf⟩ := ea_ck_s hf
      refine ea_iald C hw (show ea_ok ids 102 20 from ok_11_12 (hY 100 11 rfl)) hc7 dX11_readMended_42 ?_
      refine lv_iconst (v := 1) C.1 C.2.1 dX11_readMended_43 (by decide) ?_
      refine lv_iadd C.1 C.2.1 dX11_readMended_44 ?_
      exact wX11_readMended_45 C hY _ _ _ _ _ _ hf hw (lv_sub hl [1, 0] rfl)
    · replace hf := ea_if_t hc6 hf
      refine lv_iconst (v := 1) C.1 C.2.1 dX11_readMended_28 (by decide) ?_
      refine lv_goto (tgt := 45) C.1 C.2.1 dX11_readMended_29 (by decide) ?_
      exact wX11_readMended_45 C hY _ _ _ _ _ _ hf hw (lv_sub hl [1, 0] rfl)
  · replace hf := ea_if_t hc3 hf
    refine lv_aload_n C.1 C.2.1 dX11_readMended_13 rfl (lv_at hl 1 rfl) ?_
    refine lv_iconst (v := 4) C.1 C.2.1 dX11_readMended_14 (by decide) ?_
    obtain ⟨r9, M10, he8, hf⟩ := ea_ci_s hf
    refine ea_runi2 hw (cl_X11_169 C hw (hY 100 11 rfl) (As := [.int (4 : Int32)]) (rest := []) (mX11_fails (l := l) (E := E) (ids := ids) hY he8) (by decide) rfl hl.1 rfl (Nat.le_of_ble_eq_true rfl) dX11_readMended_15 ⟨Nat.le_refl _, Nat.le_refl _⟩) (fun H locs hw => ?_)
    obtain ⟨hc11, hf⟩ := ea_ck_s hf
    exact ea_zret C hw (ea_01_s hc11) hf dX11_readMended_18
set_option maxHeartbeats 4000000 in
set_option maxRecDepth 20000 in
theorem mX11_readMended {l : Launch} {E : eE} {ids : List Nat} (hY : ea_Y ids) {M : eM} {res : Int32 × eM} (hf : fX11_readMended M = some res) : ea_Mi l yX11_readMended cX11_readMended 2 (some .boolean) 7 157 E ids [.ref (E.1 100)] M res := by
  refine ea_goi (by decide) (Nat.le_of_ble_eq_true rfl) wc_X11_readMended ?_
  intro p e s m below meth cd ls C hw hl
  exact wX11_readMended_0 C hY  _ _ _ _ hf hw hl
end SX11_readMended

def fX11_readStory_39 (k58 : eM → Option (Int32 × eM)) (k70 : Int32 → eM → Option (Int32 × eM)) : Nat → Int32 → Int32 → eM → Option (Int32 × eM)
  | 0, _, _, _ => none
  | n + 1, x1, x2, M => if x1 ≤ x2 then (k70 x1 M) else (ea_ck (ea_ix x2 (ea_len 104)) (if (lg_cmp (M.2.1 104 x2.toNatClampNeg) (M.2.1 100 10)) = 0 then (k58 M) else (fX11_readStory_39 k58 k70 n x1 (x2 + (1 : Int32)) M)))
def fX11_readStory_58 (M : eM) : Option (Int32 × eM) := ea_ci (fX11_fails (3 : Int32) M) (fun r2 M3 => ea_ck (ea_01 r2) (some (r2, M3)))
def fX11_readStory_185 (k132 : Int32 → Int32 → Int32 → eM → Option (Int32 × eM)) (x1 : Int32) (x2 : Int32) (x3 : Int32) (M : eM) : Option (Int32 × eM) := ea_ck (ea_ix (((4 : Int32) * (((6 : Int32) * ((4 : Int32) + x1)) + x2)) + x3) (ea_len 108)) (k132 x1 x2 (x3 + (1 : Int32)) (ea_pI M 108 ((((4 : Int32) * (((6 : Int32) * ((4 : Int32) + x1)) + x2)) + x3).toNatClampNeg) (M.1 100 11)))
def fX11_readStory_132 (k212 : Int32 → Int32 → eM → Option (Int32 × eM)) : Nat → Int32 → Int32 → Int32 → eM → Option (Int32 × eM)
  | 0, _, _, _, _ => none
  | n + 1, x1, x2, x3, M => if (4 : Int32) ≤ x3 then (k212 x1 x2 M) else (if x3 = 0 then (ea_ci (fX11_readNumber (1 : Int32) (400 : Int32) M) (fun r13 M14 => if r13 = 0 then (some ((0 : Int32), M14)) else (fX11_readStory_185 (fX11_readStory_132 k212 n) x1 x2 x3 M14))) else (if x3 = (3 : Int32) then (ea_ci (fX11_readNumber (0 : Int32) (100 : Int32) M) (fun r9 M10 => if r9 = 0 then (some ((0 : Int32), M10)) else (fX11_readStory_185 (fX11_readStory_132 k212 n) x1 x2 x3 M10))) else (ea_ci (fX11_readNumber (0 : Int32) (99 : Int32) M) (fun r5 M6 => if r5 = 0 then (some ((0 : Int32), M6)) else (fX11_readStory_185 (fX11_readStory_132 k212 n) x1 x2 x3 M6)))))
def fX11_readStory_212 (k86 : Int32 → Int32 → eM → Option (Int32 × eM)) (x1 : Int32) (x2 : Int32) (M : eM) : Option (Int32 × eM) := k86 x1 (x2 + (1 : Int32)) M
def fX11_readStory_99 (k86 : Int32 → Int32 → eM → Option (Int32 × eM)) (k108 : eM → Option (Int32 × eM)) (k120 : eM → Option (Int32 × eM)) (x1 : Int32) (x2 : Int32) (M : eM) : Option (Int32 × eM) := ea_ci (fX11_isKey (8 : Int32) M) (fun r2 M3 => if r2 = 0 then (k108 M3) else (if x2 = (6 : Int32) then (k120 M3) else (ea_cv (fX11_scan M3) (fun M7 => fX11_readStory_132 (fX11_readStory_212 k86) ea_N x1 x2 (0 : Int32) M7))))
def fX11_readStory_86 (k108 : eM → Option (Int32 × eM)) (k120 : eM → Option (Int32 × eM)) (k218 : Int32 → Int32 → eM → Option (Int32 × eM)) : Nat → Int32 → Int32 → eM → Option (Int32 × eM)
  | 0, _, _, _ => none
  | n + 1, x1, x2, M => if x2 = 0 then (fX11_readStory_99 (fX11_readStory_86 k108 k120 k218 n) k108 k120 x1 x2 M) else (ea_ci (fX11_isKey (8 : Int32) M) (fun r3 M4 => if r3 = 0 then (k218 x1 x2 M4) else (fX11_readStory_99 (fX11_readStory_86 k108 k120 k218 n) k108 k120 x1 x2 M4)))
def fX11_readStory_108 (M : eM) : Option (Int32 × eM) := ea_ci (fX11_fails (1 : Int32) M) (fun r2 M3 => ea_ck (ea_01 r2) (some (r2, M3)))
def fX11_readStory_120 (M : eM) : Option (Int32 × eM) := ea_ci (fX11_fails (4 : Int32) M) (fun r2 M3 => ea_ck (ea_01 r2) (some (r2, M3)))
def fX11_readStory_218 (x1 : Int32) (x2 : Int32) (M : eM) : Option (Int32 × eM) := ea_ck (ea_ix ((4 : Int32) + x1) (ea_len 107)) (some ((1 : Int32), ea_pI (ea_pI M 107 (((4 : Int32) + x1).toNatClampNeg) x2) 102 ((19 : Int32).toNatClampNeg) (((ea_pI M 107 (((4 : Int32) + x1).toNatClampNeg) x2).1 102 (19 : Int32).toNatClampNeg) + (1 : Int32))))
def fX11_readStory_70 (x1 : Int32) (M : eM) : Option (Int32 × eM) := ea_ck (ea_ix x1 (ea_len 104)) (ea_cv (fX11_scan (ea_pL M 104 (x1.toNatClampNeg) (M.2.1 100 10))) (fun M3 => fX11_readStory_86 (fX11_readStory_108) (fX11_readStory_120) (fX11_readStory_218) ea_N x1 (0 : Int32) M3))
def fX11_readStory_0 (M : eM) : Option (Int32 × eM) := ea_lt (M.1 102 (19 : Int32).toNatClampNeg) (fun y1 => if y1 = (4 : Int32) then (ea_ci (fX11_fails (4 : Int32) M) (fun r12 M13 => ea_ck (ea_01 r12) (some (r12, M13)))) else (ea_cv (fX11_scan M) (fun M5 => if (M5.1 100 3) = (1 : Int32) then (fX11_readStory_39 (fX11_readStory_58) (fX11_readStory_70) ea_N y1 (0 : Int32) M5) else (ea_ci (fX11_fails (1 : Int32) M5) (fun r8 M9 => ea_ck (ea_01 r8) (some (r8, M9)))))))
def fX11_readStory (M : eM) : Option (Int32 × eM) := fX11_readStory_0 M
section SX11_readStory
variable {p : Program} {l : Launch} {e : Env} {s : State} {m : MethodId} {args : Array Value} {below : List Frame} {meth : Method} {cd : Code} {E : eE} {ids : List Nat} {res : Int32 × eM}
set_option maxHeartbeats 4000000 in
set_option maxRecDepth 20000 in
theorem wX11_readStory_39 (C : ea_C p s m args meth cd cX11_readStory 4 (some .boolean) RX11) (hY : ea_Y ids) {k58 : eM → Option (Int32 × eM)} (hk58 : ∀  (M : eM) (H : Heap) (locs : List Loc) (ls : Array Slot), k58 M = some res → ea_w E ids M s H locs → lv_has ls 4 [(0, .ref (E.1 100))] → W p l e (ea_rm 7 157) s m args below meth cd H locs 0 0 (MQ below (ea_Qi E ids res) args s 0 0 (ea_Ad E ids)) (F0 m 58 ls [])) {k70 : Int32 → eM → Option (Int32 × eM)} (hk70 : ∀ (x1 : Int32) (M : eM) (H : Heap) (locs : List Loc) (ls : Array Slot), k70 x1 M = some res → ea_w E ids M s H locs → lv_has ls 4 [(0, .ref (E.1 100)), (1, .int x1)] → W p l e (ea_rm 7 157) s m args below meth cd H locs 0 0 (MQ below (ea_Qi E ids res) args s 0 0 (ea_Ad E ids)) (F0 m 70 ls [])) : ∀ (n : Nat) (x1 : Int32) (x2 : Int32) (M : eM) (H : Heap) (locs : List Loc) (ls : Array Slot), fX11_readStory_39 k58 k70 n x1 x2 M = some res → ea_w E ids M s H locs → lv_has ls 4 [(0, .ref (E.1 100)), (1, .int x1), (2, .int x2)] → W p l e (ea_rm 7 157) s m args below meth cd H locs 0 0 (MQ below (ea_Qi E ids res) args s 0 0 (ea_Ad E ids)) (F0 m 39 ls []) := by
  intro n
  induction n with
  | zero => intro x1 x2 M H locs ls hf; cases hf
  | succ n ih =>
    intro x1 x2 M H locs ls hf  hw hl
    replace hf := (fX11_readStory_39.eq_2 ..).symm.trans hf
    refine lv_iload_n C.1 C.2.1 dX11_readStory_39 rfl (lv_at hl 2 rfl) ?_
    refine lv_iload_n C.1 C.2.1 dX11_readStory_40 rfl (lv_at hl 1 rfl) ?_
    refine lv_icmp_ge (tgt := 70) C.1 C.2.1 dX11_readStory_41 (by decide) (fun hc1 => ?_) (fun hc1 => ?_)
    · replace hf := ea_if_t hc1 hf
      exact hk70 _ _ _ _ _ hf hw (lv_sub hl [0, 1] rfl)
    · replace hf := ea_if_f hc1 hf
      refine lv_aload_n C.1 C.2.1 dX11_readStory_44 rfl (lv_at hl 0 rfl) ?_
      refine gf_X11_25 C hw (hY 100 11 rfl) dX11_readStory_45 ?_
      refine W.eq (g2 := F0 m 48 ls [.ref (E.1 104)]) rfl ?_
      refine lv_iload_n C.1 C.2.1 dX11_readStory_48 rfl (lv_at hl 2 rfl) ?_
      obtain ⟨hc2, hf⟩ := ea_ck_s hf
      refine ea_lald C hw (show ea_ok ids 104 21 from ok_11_14 (hY 100 11 rfl)) hc2 dX11_readStory_49 ?_
      refine lv_aload_n C.1 C.2.1 dX11_readStory_50 rfl (lv_at hl 0 rfl) ?_
      refine gf_X11_148 C hw (hY 100 11 rfl) dX11_readStory_51 ?_
      refine W.lcmp C.1 C.2.1 dX11_readStory_54 ?_
      refine lv_if_ne (tgt := 64) C.1 C.2.1 dX11_readStory_55 (by decide) (fun hc3 => ?_) (fun hc3 => ?_)
      · replace hf := ea_if_f hc3 hf
        refine lv_iinc (v := x2 + (1 : Int32)) (lv' := [(2, .int (x2 + (1 : Int32))), (0, .ref (E.1 100)), (1, .int x1)]) C.1 C.2.1 dX11_readStory_64 hl (k := 2) rfl rfl (by decide) rfl (fun ls hl => ?_)
        refine lv_goto (tgt := 39) C.1 C.2.1 dX11_readStory_67 (by decide) ?_
        exact ih _ _ _ _ _ _ hf hw (lv_sub hl [1, 2, 0] rfl)
      · replace hf := ea_if_t hc3 hf
        exact hk58 _ _ _ _ hf hw (lv_sub hl [0] rfl)
set_option maxHeartbeats 4000000 in
set_option maxRecDepth 20000 in
theorem wX11_readStory_58 (C : ea_C p s m args meth cd cX11_readStory 4 (some .boolean) RX11) (hY : ea_Y ids) : ∀  (M : eM) (H : Heap) (locs : List Loc) (ls : Array Slot), fX11_readStory_58 M = some res → ea_w E ids M s H locs → lv_has ls 4 [(0, .ref (E.1 100))] → W p l e (ea_rm 7 157) s m args below meth cd H locs 0 0 (MQ below (ea_Qi E ids res) args s 0 0 (ea_Ad E ids)) (F0 m 58 ls []) := by
  intro M H locs ls hf  hw hl
  replace hf := (fX11_readStory_58.eq_1 ..).symm.trans hf
  refine lv_aload_n C.1 C.2.1 dX11_readStory_58 rfl (lv_at hl 0 rfl) ?_
  refine lv_iconst (v := 3) C.1 C.2.1 dX11_readStory_59 (by decide) ?_
  obtain ⟨r2, M3, he1, hf⟩ := ea_ci_s hf
  refine ea_runi2 hw (cl_X11_169 C hw (hY 100 11 rfl) (As := [.int (3 : Int32)]) (rest := []) (mX11_fails (l := l) (E := E) (ids := ids) hY he1) (by decide) rfl hl.1 rfl (Nat.le_of_ble_eq_true rfl) dX11_readStory_60 ⟨Nat.le_refl _, Nat.le_refl _⟩) (fun H locs hw => ?_)
  obtain ⟨hc4, hf⟩ := ea_ck_s hf
  exact ea_zret C hw (ea_01_s hc4) hf dX11_readStory_63
set_option maxHeartbeats 4000000 in
set_option maxRecDepth 20000 in
theorem wX11_readStory_185 (C : ea_C p s m args meth cd cX11_readStory 4 (some .boolean) RX11) (hY : ea_Y ids) {k132 : Int32 → Int32 → Int32 → eM → Option (Int32 × eM)} (hk132 : ∀ (x1 : Int32) (x2 : Int32) (x3 : Int32) (M : eM) (H : Heap) (locs : List Loc) (ls : Array Slot), k132 x1 x2 x3 M = some res → ea_w E ids M s H locs → lv_has ls 4 [(0, .ref (E.1 100)), (1, .int x1), (2, .int x2), (3, .int x3)] → W p l e (ea_rm 7 157) s m args below meth cd H locs 0 0 (MQ below (ea_Qi E ids res) args s 0 0 (ea_Ad E ids)) (F0 m 132 ls [])) : ∀ (x1 : Int32) (x2 : Int32) (x3 : Int32) (M : eM) (H : Heap) (locs : List Loc) (ls : Array Slot), fX11_readStory_185 k132 x1 x2 x3 M = some res → ea_w E ids M s H locs → lv_has ls 4 [(0, .ref (E.1 100)), (1, .int x1), (2, .int x2), (3, .int x3)] → W p l e (ea_rm 7 157) s m args below meth cd H locs 0 0 (MQ below (ea_Qi E ids res) args s 0 0 (ea_Ad E ids)) (F0 m 185 ls []) := by
  intro x1 x2 x3 M H locs ls hf  hw hl
  replace hf := (fX11_readStory_185.eq_1 ..).symm.trans hf
  refine lv_aload_n C.1 C.2.1 dX11_readStory_185 rfl (lv_at hl 0 rfl) ?_
  refine gf_X11_37 C hw (hY 100 11 rfl) dX11_readStory_186 ?_
  refine W.eq (g2 := F0 m 189 ls [.ref (E.1 108)]) rfl ?_
  refine lv_iconst (v := 4) C.1 C.2.1 dX11_readStory_189 (by decide) ?_
  refine lv_bipush (v := 6) C.1 C.2.1 dX11_readStory_190 (by decide) ?_
  refine lv_iconst (v := 4) C.1 C.2.1 dX11_readStory_192 (by decide) ?_
  refine lv_iload_n C.1 C.2.1 dX11_readStory_193 rfl (lv_at hl 1 rfl) ?_
  refine lv_iadd C.1 C.2.1 dX11_readStory_194 ?_
  refine lv_imul C.1 C.2.1 dX11_readStory_195 ?_
  refine lv_iload_n C.1 C.2.1 dX11_readStory_196 rfl (lv_at hl 2 rfl) ?_
  refine lv_iadd C.1 C.2.1 dX11_readStory_197 ?_
  refine lv_imul C.1 C.2.1 dX11_readStory_198 ?_
  refine lv_iload_n C.1 C.2.1 dX11_readStory_199 rfl (lv_at hl 3 rfl) ?_
  refine lv_iadd C.1 C.2.1 dX11_readStory_200 ?_
  refine lv_aload_n C.1 C.2.1 dX11_readStory_201 rfl (lv_at hl 0 rfl) ?_
  refine gf_X11_176 C hw (hY 100 11 rfl) dX11_readStory_202 ?_
  obtain ⟨hc1, hf⟩ := ea_ck_s hf
  refine ea_iast C hw (show ea_ok ids 108 20 from ok_11_18 (hY 100 11 rfl)) hc1 dX11_readStory_205 (fun H locs hw => ?_)
  refine lv_iinc (v := x3 + (1 : Int32)) (lv' := [(3, .int (x3 + (1 : Int32))), (0, .ref (E.1 100)), (1, .int x1), (2, .int x2)]) C.1 C.2.1 dX11_readStory_206 hl (k := 3) rfl rfl (by decide) rfl (fun ls hl => ?_)
  refine lv_goto (tgt := 132) C.1 C.2.1 dX11_readStory_209 (by decide) ?_
  exact hk132 _ _ _ _ _ _ _ hf hw (lv_sub hl [1, 2, 3, 0] rfl)
set_option maxHeartbeats 4000000 in
set_option maxRecDepth 20000 in
theorem wX11_readStory_132 (C : ea_C p s m args meth cd cX11_readStory 4 (some .boolean) RX11) (hY : ea_Y ids) {k212 : Int32 → Int32 → eM → Option (Int32 × eM)} (hk212 : ∀ (x1 : Int32) (x2 : Int32) (M : eM) (H : Heap) (locs : List Loc) (ls : Array Slot), k212 x1 x2 M = some res → ea_w E ids M s H locs → lv_has ls 4 [(0, .ref (E.1 100)), (1, .int x1), (2, .int x2)] → W p l e (ea_rm 7 157) s m args below meth cd H locs 0 0 (MQ below (ea_Qi E ids res) args s 0 0 (ea_Ad E ids)) (F0 m 212 ls [])) : ∀ (n : Nat) (x1 : Int32) (x2 : Int32) (x3 : Int32) (M : eM) (H : Heap) (locs : List Loc) (ls : Array Slot), fX11_readStory_132 k212 n x1 x2 x3 M = some res → ea_w E ids M s H locs → lv_has ls 4 [(0, .ref (E.1 100)), (1, .int x1), (2, .int x2), (3, .int x3)] → W p l e (ea_rm 7 157) s m args below meth cd H locs 0 0 (MQ below (ea_Qi E ids res) args s 0 0 (ea_Ad E ids)) (F0 m 132 ls []) := by
  intro n
  induction n with
  | zero => intro x1 x2 x3 M H locs ls hf; cases hf
  | succ n ih =>
    intro x1 x2 x3 M H locs ls hf  hw hl
    replace hf := (fX11_readStory_132.eq_2 ..).symm.trans hf
    refine lv_iload_n C.1 C.2.1 dX11_readStory_132 rfl (lv_at hl 3 rfl) ?_
    refine lv_iconst (v := 4) C.1 C.2.1 dX11_readStory_133 (by decide) ?_
    refine lv_icmp_ge (tgt := 212) C.1 C.2.1 dX11_readStory_134 (by decide) (fun hc1 => ?_) (fun hc1 => ?_)
    · replace hf := ea_if_t hc1 hf
      exact hk212 _ _ _ _ _ _ hf hw (lv_sub hl [0, 1, 2] rfl)
    · replace hf := ea_if_f hc1 hf
      refine lv_iload_n C.1 C.2.1 dX11_readStory_137 rfl (lv_at hl 3 rfl) ?_
      refine lv_if_ne (tgt := 155) C.1 C.2.1 dX11_readStory_138 (by decide) (fun hc2 => ?_) (fun hc2 => ?_)
      · replace hf := ea_if_f hc2 hf
        refine lv_iload_n C.1 C.2.1 dX11_readStory_155 rfl (lv_at hl 3 rfl) ?_
        refine lv_iconst (v := 3) C.1 C.2.1 dX11_readStory_156 (by decide) ?_
        refine lv_icmp_ne (tgt := 173) C.1 C.2.1 dX11_readStory_157 (by decide) (fun hc3 => ?_) (fun hc3 => ?_)
        · replace hf := ea_if_f hc3 hf
          refine lv_aload_n C.1 C.2.1 dX11_readStory_173 rfl (lv_at hl 0 rfl) ?_
          refine lv_iconst (v := 0) C.1 C.2.1 dX11_readStory_174 (by decide) ?_
          refine lv_bipush (v := 99) C.1 C.2.1 dX11_readStory_175 (by decide) ?_
          obtain ⟨r5, M6, he4, hf⟩ := ea_ci_s hf
          refine ea_runi2 hw (cl_X11_196 C hw (hY 100 11 rfl) (As := [.int (0 : Int32), .int (99 : Int32)]) (rest := []) (mX11_readNumber (l := l) (E := E) (ids := ids) hY he4) (by decide) rfl hl.1 rfl (Nat.le_of_ble_eq_true rfl) dX11_readStory_177 ⟨Nat.le_refl _, Nat.le_refl _⟩) (fun H locs hw => ?_)
          refine lv_if_ne (tgt := 185) C.1 C.2.1 dX11_readStory_180 (by decide) (fun hc7 => ?_) (fun hc7 => ?_)
          · replace hf := ea_if_f hc7 hf
            exact wX11_readStory_185 C hY ih _ _ _ _ _ _ _ hf hw (lv_sub hl [0, 1, 2, 3] rfl)
          · replace hf := ea_if_t hc7 hf
            refine lv_iconst (v := 0) C.1 C.2.1 dX11_readStory_183 (by decide) ?_
            exact ea_zret C hw (by decide) hf dX11_readStory_184
        · replace hf := ea_if_t hc3 hf
          refine lv_aload_n C.1 C.2.1 dX11_readStory_160 rfl (lv_at hl 0 rfl) ?_
          refine lv_iconst (v := 0) C.1 C.2.1 dX11_readStory_161 (by decide) ?_
          refine lv_bipush (v := 100) C.1 C.2.1 dX11_readStory_162 (by decide) ?_
          obtain ⟨r9, M10, he8, hf⟩ := ea_ci_s hf
          refine ea_runi2 hw (cl_X11_196 C hw (hY 100 11 rfl) (As := [.int (0 : Int32), .int (100 : Int32)]) (rest := []) (mX11_readNumber (l := l) (E := E) (ids := ids) hY he8) (by decide) rfl hl.1 rfl (Nat.le_of_ble_eq_true rfl) dX11_readStory_164 ⟨Nat.le_refl _, Nat.le_refl _⟩) (fun H locs hw => ?_)
          refine lv_if_eq (tgt := 183) C.1 C.2.1 dX11_readStory_167 (by decide) (fun hc11 => ?_) (fun hc11 => ?_)
          · replace hf := ea_if_t hc11 hf
            refine lv_iconst (v := 0) C.1 C.2.1 dX11_readStory_183 (by decide) ?_
            exact ea_zret C hw (by decide) hf dX11_readStory_184
          · replace hf := ea_if_f hc11 hf
            refine lv_goto (tgt := 185) C.1 C.2.1 dX11_readStory_170 (by decide) ?_
            exact wX11_readStory_185 C hY ih _ _ _ _ _ _ _ hf hw (lv_sub hl [0, 1, 2, 3] rfl)
      · replace hf := ea_if_t hc2 hf
        refine lv_aload_n C.1 C.2.1 dX11_readStory_141 rfl (lv_at hl 0 rfl) ?_
        refine lv_iconst (v := 1) C.1 C.2.1 dX11_readStory_142 (by decide) ?_
        refine lv_sipush (v := 400) C.1 C.2.1 dX11_readStory_143 (by decide) ?_
        obtain ⟨r13, M14, he12, hf⟩ := ea_ci_s hf
        refine ea_runi2 hw (cl_X11_196 C hw (hY 100 11 rfl) (As := [.int (1 : Int32), .int (400 : Int32)]) (rest := []) (mX11_readNumber (l := l) (E := E) (ids := ids) hY he12) (by decide) rfl hl.1 rfl (Nat.le_of_ble_eq_true rfl) dX11_readStory_146 ⟨Nat.le_refl _, Nat.le_refl _⟩) (fun H locs hw => ?_)
        refine lv_if_eq (tgt := 183) C.1 C.2.1 dX11_readStory_149 (by decide) (fun hc15 => ?_) (fun hc15 => ?_)
        · replace hf := ea_if_t hc15 hf
          refine lv_iconst (v := 0) C.1 C.2.1 dX11_readStory_183 (by decide) ?_
          exact ea_zret C hw (by decide) hf dX11_readStory_184
        · replace hf := ea_if_f hc15 hf
          refine lv_goto (tgt := 185) C.1 C.2.1 dX11_readStory_152 (by decide) ?_
          exact wX11_readStory_185 C hY ih _ _ _ _ _ _ _ hf hw (lv_sub hl [0, 1, 2, 3] rfl)
set_option maxHeartbeats 4000000 in
set_option maxRecDepth 20000 in
theorem wX11_readStory_212 (C : ea_C p s m args meth cd cX11_readStory 4 (some .boolean) RX11) (hY : ea_Y ids) {k86 : Int32 → Int32 → eM → Option (Int32 × eM)} (hk86 : ∀ (x1 : Int32) (x2 : Int32) (M : eM) (H : Heap) (locs : List Loc) (ls : Array Slot), k86 x1 x2 M = some res → ea_w E ids M s H locs → lv_has ls 4 [(0, .ref (E.1 100)), (1, .int x1), (2, .int x2)] → W p l e (ea_rm 7 157) s m args below meth cd H locs 0 0 (MQ below (ea_Qi E ids res) args s 0 0 (ea_Ad E ids)) (F0 m 86 ls [])) : ∀ (x1 : Int32) (x2 : Int32) (M : eM) (H : Heap) (locs : List Loc) (ls : Array Slot), fX11_readStory_212 k86 x1 x2 M = some res → ea_w E ids M s H locs → lv_has ls 4 [(0, .ref (E.1 100)), (1, .int x1), (2, .int x2)] → W p l e (ea_rm 7 157) s m args below meth cd H locs 0 0 (MQ below (ea_Qi E ids res) args s 0 0 (ea_Ad E ids)) (F0 m 212 ls []) := by
  intro x1 x2 M H locs ls hf  hw hl
  replace hf := (fX11_readStory_212.eq_1 ..).symm.trans hf
  refine lv_iinc (v := x2 + (1 : Int32)) (lv' := [(2, .int (x2 + (1 : Int32))), (0, .ref (E.1 100)), (1, .int x1)]) C.1 C.2.1 dX11_readStory_212 hl (k := 2) rfl rfl (by decide) rfl (fun ls hl => ?_)
  refine lv_goto (tgt := 86) C.1 C.2.1 dX11_readStory_215 (by decide) ?_
  exact hk86 _ _ _ _ _ _ hf hw (lv_sub hl [1, 2, 0] rfl)
set_option maxHeartbeats 4000000 in
set_option maxRecDepth 20000 in
theorem wX11_readStory_99 (C : ea_C p s m args meth cd cX11_readStory 4 (some .boolean) RX11) (hY : ea_Y ids) {k86 : Int32 → Int32 → eM → Option (Int32 × eM)} (hk86 : ∀ (x1 : Int32) (x2 : Int32) (M : eM) (H : Heap) (locs : List Loc) (ls : Array Slot), k86 x1 x2 M = some res → ea_w E ids M s H locs → lv_has ls 4 [(0, .ref (E.1 100)), (1, .int x1), (2, .int x2)] → W p l e (ea_rm 7 157) s m args below meth cd H locs 0 0 (MQ below (ea_Qi E ids res) args s 0 0 (ea_Ad E ids)) (F0 m 86 ls [])) {k108 : eM → Option (Int32 × eM)} (hk108 : ∀  (M : eM) (H : Heap) (locs : List Loc) (ls : Array Slot), k108 M = some res → ea_w E ids M s H locs → lv_has ls 4 [(0, .ref (E.1 100))] → W p l e (ea_rm 7 157) s m args below meth cd H locs 0 0 (MQ below (ea_Qi E ids res) args s 0 0 (ea_Ad E ids)) (F0 m 108 ls [])) {k120 : eM → Option (Int32 × eM)} (hk120 : ∀  (M : eM) (H : Heap) (locs : List Loc) (ls : Array Slot), k120 M = some res → ea_w E ids M s H locs → lv_has ls 4 [(0, .ref (E.1 100))] → W p l e (ea_rm 7 157) s m args below meth cd H locs 0 0 (MQ below (ea_Qi E ids res) args s 0 0 (ea_Ad E ids)) (F0 m 120 ls [])) : ∀ (x1 : Int32) (x2 : Int32) (M : eM) (H : Heap) (locs : List Loc) (ls : Array Slot), fX11_readStory_99 k86 k108 k120 x1 x2 M = some res → ea_w E ids M s H locs → lv_has ls 4 [(0, .ref (E.1 100)), (1, .int x1), (2, .int x2)] → W p l e (ea_rm 7 157) s m args below meth cd H locs 0 0 (MQ below (ea_Qi E ids res) args s 0 0 (ea_Ad E ids)) (F0 m 99 ls []) := by
  intro x1 x2 M H locs ls hf  hw hl
  replace hf := (fX11_readStory_99.eq_1 ..).symm.trans hf
  refine lv_aload_n C.1 C.2.1 dX11_readStory_99 rfl (lv_at hl 0 rfl) ?_
  refine lv_bipush (v := 8) C.1 C.2.1 dX11_readStory_100 (by decide) ?_
  obtain ⟨r2, M3, he1, hf⟩ := ea_ci_s hf
  refine ea_runi2 hw (cl_X11_200 C hw (hY 100 11 rfl) (As := [.int (8 : Int32)]) (rest := []) (mX11_isKey (l := l) (E := E) (ids := ids) hY he1) (by decide) rfl hl.1 rfl (Nat.le_of_ble_eq_true rfl) dX11_readStory_102 ⟨Nat.le_refl _, Nat.le_refl _⟩) (fun H locs hw => ?_)
  refine lv_if_ne (tgt := 114) C.1 C.2.1 dX11_readStory_105 (by decide) (fun hc4 => ?_) (fun hc4 => ?_)
  · replace hf := ea_if_f hc4 hf
    refine lv_iload_n C.1 C.2.1 dX11_readStory_114 rfl (lv_at hl 2 rfl) ?_
    refine lv_bipush (v := 6) C.1 C.2.1 dX11_readStory_115 (by decide) ?_
    refine lv_icmp_ne (tgt := 126) C.1 C.2.1 dX11_readStory_117 (by decide) (fun hc5 => ?_) (fun hc5 => ?_)
    · replace hf := ea_if_f hc5 hf
      refine lv_aload_n C.1 C.2.1 dX11_readStory_126 rfl (lv_at hl 0 rfl) ?_
      obtain ⟨M7, he6, hf⟩ := ea_cv_s hf
      refine ea_runv hw (cl_X11_179 C hw (hY 100 11 rfl) (As := []) (rest := []) (mX11_scan (l := l) (E := E) (ids := ids) hY he6) (by decide) rfl hl.1 rfl (Nat.le_of_ble_eq_true rfl) dX11_readStory_127 ⟨Nat.le_refl _, Nat.le_refl _⟩) (fun H locs hw => ?_)
      refine lv_iconst (v := 0) C.1 C.2.1 dX11_readStory_130 (by decide) ?_
      refine lv_istore_n (lv' := [(3, .int (0 : Int32)), (0, .ref (E.1 100)), (1, .int x1), (2, .int x2)]) C.1 C.2.1 dX11_readStory_131 rfl hl (by decide) rfl (fun ls hl => ?_)
      exact wX11_readStory_132 C hY (wX11_readStory_212 C hY hk86) ea_N _ _ _ _ _ _ _ hf hw (lv_sub hl [1, 2, 3, 0] rfl)
    · replace hf := ea_if_t hc5 hf
      exact hk120 _ _ _ _ hf hw (lv_sub hl [0] rfl)
  · replace hf := ea_if_t hc4 hf
    exact hk108 _ _ _ _ hf hw (lv_sub hl [0] rfl)
set_option maxHeartbeats 4000000 in
set_option maxRecDepth 20000 in
theorem wX11_readStory_86 (C : ea_C p s m args meth cd cX11_readStory 4 (some .boolean) RX11) (hY : ea_Y ids) {k108 : eM → Option (Int32 × eM)} (hk108 : ∀  (M : eM) (H : Heap) (locs : List Loc) (ls : Array Slot), k108 M = some res → ea_w E ids M s H locs → lv_has ls 4 [(0, .ref (E.1 100))] → W p l e (ea_rm 7 157) s m args below meth cd H locs 0 0 (MQ below (ea_Qi E ids res) args s 0 0 (ea_Ad E ids)) (F0 m 108 ls [])) {k120 : eM → Option (Int32 × eM)} (hk120 : ∀  (M : eM) (H : Heap) (locs : List Loc) (ls : Array Slot), k120 M = some res → ea_w E ids M s H locs → lv_has ls 4 [(0, .ref (E.1 100))] → W p l e (ea_rm 7 157) s m args below meth cd H locs 0 0 (MQ below (ea_Qi E ids res) args s 0 0 (ea_Ad E ids)) (F0 m 120 ls [])) {k218 : Int32 → Int32 → eM → Option (Int32 × eM)} (hk218 : ∀ (x1 : Int32) (x2 : Int32) (M : eM) (H : Heap) (locs : List Loc) (ls : Array Slot), k218 x1 x2 M = some res → ea_w E ids M s H locs → lv_has ls 4 [(0, .ref (E.1 100)), (1, .int x1), (2, .int x2)] → W p l e (ea_rm 7 157) s m args below meth cd H locs 0 0 (MQ below (ea_Qi E ids res) args s 0 0 (ea_Ad E ids)) (F0 m 218 ls [])) : ∀ (n : Nat) (x1 : Int32) (x2 : Int32) (M : eM) (H : Heap) (locs : List Loc) (ls : Array Slot), fX11_readStory_86 k108 k120 k218 n x1 x2 M = some res → ea_w E ids M s H locs → lv_has ls 4 [(0, .ref (E.1 100)), (1, .int x1), (2, .int x2)] → W p l e (ea_rm 7 157) s m args below meth cd H locs 0 0 (MQ below (ea_Qi E ids res) args s 0 0 (ea_Ad E ids)) (F0 m 86 ls []) := by
  intro n
  induction n with
  | zero => intro x1 x2 M H locs ls hf; cases hf
  | succ n ih =>
    intro x1 x2 M H locs ls hf  hw hl
    replace hf := (fX11_readStory_86.eq_2 ..).symm.trans hf
    refine lv_iload_n C.1 C.2.1 dX11_readStory_86 rfl (lv_at hl 2 rfl) ?_
    refine lv_if_eq (tgt := 99) C.1 C.2.1 dX11_readStory_87 (by decide) (fun hc1 => ?_) (fun hc1 => ?_)
    · replace hf := ea_if_t hc1 hf
      exact wX11_readStory_99 C hY ih hk108 hk120 _ _ _ _ _ _ hf hw (lv_sub hl [0, 1, 2] rfl)
    · replace hf := ea_if_f hc1 hf
      refine lv_aload_n C.1 C.2.1 dX11_readStory_90 rfl (lv_at hl 0 rfl) ?_
      refine lv_bipush (v := 8) C.1 C.2.1 dX11_readStory_91 (by decide) ?_
      obtain ⟨r3, M4, he2, hf⟩ := ea_ci_s hf
      refine ea_runi2 hw (cl_X11_200 C hw (hY 100 11 rfl) (As := [.int (8 : Int32)]) (rest := []) (mX11_isKey (l := l) (E := E) (ids := ids) hY he2) (by decide) rfl hl.1 rfl (Nat.le_of_ble_eq_true rfl) dX11_readStory_93 ⟨Nat.le_refl _, Nat.le_refl _⟩) (fun H locs hw => ?_)
      refine lv_if_eq (tgt := 218) C.1 C.2.1 dX11_readStory_96 (by decide) (fun hc5 => ?_) (fun hc5 => ?_)
      · replace hf := ea_if_t hc5 hf
        exact hk218 _ _ _ _ _ _ hf hw (lv_sub hl [0, 1, 2] rfl)
      · replace hf := ea_if_f hc5 hf
        exact wX11_readStory_99 C hY ih hk108 hk120 _ _ _ _ _ _ hf hw (lv_sub hl [0, 1, 2] rfl)
set_option maxHeartbeats 4000000 in
set_option maxRecDepth 20000 in
theorem wX11_readStory_108 (C : ea_C p s m args meth cd cX11_readStory 4 (some .boolean) RX11) (hY : ea_Y ids) : ∀  (M : eM) (H : Heap) (locs : List Loc) (ls : Array Slot), fX11_readStory_108 M = some res → ea_w E ids M s H locs → lv_has ls 4 [(0, .ref (E.1 100))] → W p l e (ea_rm 7 157) s m args below meth cd H locs 0 0 (MQ below (ea_Qi E ids res) args s 0 0 (ea_Ad E ids)) (F0 m 108 ls []) := by
  intro M H locs ls hf  hw hl
  replace hf := (fX11_readStory_108.eq_1 ..).symm.trans hf
  refine lv_aload_n C.1 C.2.1 dX11_readStory_108 rfl (lv_at hl 0 rfl) ?_
  refine lv_iconst (v := 1) C.1 C.2.1 dX11_readStory_109 (by decide) ?_
  obtain ⟨r2, M3, he1, hf⟩ := ea_ci_s hf
  refine ea_runi2 hw (cl_X11_169 C hw (hY 100 11 rfl) (As := [.int (1 : Int32)]) (rest := []) (mX11_fails (l := l) (E := E) (ids := ids) hY he1) (by decide) rfl hl.1 rfl (Nat.le_of_ble_eq_true rfl) dX11_readStory_110 ⟨Nat.le_refl _, Nat.le_refl _⟩) (fun H locs hw => ?_)
  obtain ⟨hc4, hf⟩ := ea_ck_s hf
  exact ea_zret C hw (ea_01_s hc4) hf dX11_readStory_113
set_option maxHeartbeats 4000000 in
set_option maxRecDepth 20000 in
theorem wX11_readStory_120 (C : ea_C p s m args meth cd cX11_readStory 4 (some .boolean) RX11) (hY : ea_Y ids) : ∀  (M : eM) (H : Heap) (locs : List Loc) (ls : Array Slot), fX11_readStory_120 M = some res → ea_w E ids M s H locs → lv_has ls 4 [(0, .ref (E.1 100))] → W p l e (ea_rm 7 157) s m args below meth cd H locs 0 0 (MQ below (ea_Qi E ids res) args s 0 0 (ea_Ad E ids)) (F0 m 120 ls []) := by
  intro M H locs ls hf  hw hl
  replace hf := (fX11_readStory_120.eq_1 ..).symm.trans hf
  refine lv_aload_n C.1 C.2.1 dX11_readStory_120 rfl (lv_at hl 0 rfl) ?_
  refine lv_iconst (v := 4) C.1 C.2.1 dX11_readStory_121 (by decide) ?_
  obtain ⟨r2, M3, he1, hf⟩ := ea_ci_s hf
  refine ea_runi2 hw (cl_X11_169 C hw (hY 100 11 rfl) (As := [.int (4 : Int32)]) (rest := []) (mX11_fails (l := l) (E := E) (ids := ids) hY he1) (by decide) rfl hl.1 rfl (Nat.le_of_ble_eq_true rfl) dX11_readStory_122 ⟨Nat.le_refl _, Nat.le_refl _⟩) (fun H locs hw => ?_)
  obtain ⟨hc4, hf⟩ := ea_ck_s hf
  exact ea_zret C hw (ea_01_s hc4) hf dX11_readStory_125
set_option maxHeartbeats 4000000 in
set_option maxRecDepth 20000 in
theorem wX11_readStory_218 (C : ea_C p s m args meth cd cX11_readStory 4 (some .boolean) RX11) (hY : ea_Y ids) : ∀ (x1 : Int32) (x2 : Int32) (M : eM) (H : Heap) (locs : List Loc) (ls : Array Slot), fX11_readStory_218 x1 x2 M = some res → ea_w E ids M s H locs → lv_has ls 4 [(0, .ref (E.1 100)), (1, .int x1), (2, .int x2)] → W p l e (ea_rm 7 157) s m args below meth cd H locs 0 0 (MQ below (ea_Qi E ids res) args s 0 0 (ea_Ad E ids)) (F0 m 218 ls []) := by
  intro x1 x2 M H locs ls hf  hw hl
  replace hf := (fX11_readStory_218.eq_1 ..).symm.trans hf
  refine lv_aload_n C.1 C.2.1 dX11_readStory_218 rfl (lv_at hl 0 rfl) ?_
  refine gf_X11_34 C hw (hY 100 11 rfl) dX11_readStory_219 ?_
  refine W.eq (g2 := F0 m 222 ls [.ref (E.1 107)]) rfl ?_
  refine lv_iconst (v := 4) C.1 C.2.1 dX11_readStory_222 (by decide) ?_
  refine lv_iload_n C.1 C.2.1 dX11_readStory_223 rfl (lv_at hl 1 rfl) ?_
  refine lv_iadd C.1 C.2.1 dX11_readStory_224 ?_
  refine lv_iload_n C.1 C.2.1 dX11_readStory_225 rfl (lv_at hl 2 rfl) ?_
  obtain ⟨hc1, hf⟩ := ea_ck_s hf
  refine ea_iast C hw (show ea_ok ids 107 20 from ok_11_17 (hY 100 11 rfl)) hc1 dX11_readStory_226 (fun H locs hw => ?_)
  refine lv_aload_n C.1 C.2.1 dX11_readStory_227 rfl (lv_at hl 0 rfl) ?_
  refine gf_X11_17 C hw (hY 100 11 rfl) dX11_readStory_228 ?_
  refine W.eq (g2 := F0 m 231 ls [.ref (E.1 102)]) rfl ?_
  refine lv_bipush (v := 19) C.1 C.2.1 dX11_readStory_231 (by decide) ?_
  refine lv_dup2_11 C.1 C.2.1 dX11_readStory_233 rfl rfl ?_
  refine ea_iald C hw (show ea_ok ids 102 20 from ok_11_12 (hY 100 11 rfl)) (by decide) dX11_readStory_234 ?_
  refine lv_iconst (v := 1) C.1 C.2.1 dX11_readStory_235 (by decide) ?_
  refine lv_iadd C.1 C.2.1 dX11_readStory_236 ?_
  refine ea_iast C hw (show ea_ok ids 102 20 from ok_11_12 (hY 100 11 rfl)) (by decide) dX11_readStory_237 (fun H locs hw => ?_)
  refine lv_iconst (v := 1) C.1 C.2.1 dX11_readStory_238 (by decide) ?_
  exact ea_zret C hw (by decide) hf dX11_readStory_239
set_option maxHeartbeats 4000000 in
set_option maxRecDepth 20000 in
theorem wX11_readStory_70 (C : ea_C p s m args meth cd cX11_readStory 4 (some .boolean) RX11) (hY : ea_Y ids) : ∀ (x1 : Int32) (M : eM) (H : Heap) (locs : List Loc) (ls : Array Slot), fX11_readStory_70 x1 M = some res → ea_w E ids M s H locs → lv_has ls 4 [(0, .ref (E.1 100)), (1, .int x1)] → W p l e (ea_rm 7 157) s m args below meth cd H locs 0 0 (MQ below (ea_Qi E ids res) args s 0 0 (ea_Ad E ids)) (F0 m 70 ls []) := by
  intro x1 M H locs ls hf  hw hl
  replace hf := (fX11_readStory_70.eq_1 ..).symm.trans hf
  refine lv_aload_n C.1 C.2.1 dX11_readStory_70 rfl (lv_at hl 0 rfl) ?_
  refine gf_X11_25 C hw (hY 100 11 rfl) dX11_readStory_71 ?_
  refine W.eq (g2 := F0 m 74 ls [.ref (E.1 104)]) rfl ?_
  refine lv_iload_n C.1 C.2.1 dX11_readStory_74 rfl (lv_at hl 1 rfl) ?_
  refine lv_aload_n C.1 C.2.1 dX11_readStory_75 rfl (lv_at hl 0 rfl) ?_
  refine gf_X11_148 C hw (hY 100 11 rfl) dX11_readStory_76 ?_
  obtain ⟨hc1, hf⟩ := ea_ck_s hf
  refine ea_last C hw (show ea_ok ids 104 21 from ok_11_14 (hY 100 11 rfl)) hc1 dX11_readStory_79 (fun H locs hw => ?_)
  refine lv_aload_n C.1 C.2.1 dX11_readStory_80 rfl (lv_at hl 0 rfl) ?_
  obtain ⟨M3, he2, hf⟩ := ea_cv_s hf
  refine ea_runv hw (cl_X11_179 C hw (hY 100 11 rfl) (As := []) (rest := []) (mX11_scan (l := l) (E := E) (ids := ids) hY he2) (by decide) rfl hl.1 rfl (Nat.le_of_ble_eq_true rfl) dX11_readStory_81 ⟨Nat.le_refl _, Nat.le_refl _⟩) (fun H locs hw => ?_)
  refine lv_iconst (v := 0) C.1 C.2.1 dX11_readStory_84 (by decide) ?_
  refine lv_istore_n (lv' := [(2, .int (0 : Int32)), (0, .ref (E.1 100)), (1, .int x1)]) C.1 C.2.1 dX11_readStory_85 rfl hl (by decide) rfl (fun ls hl => ?_)
  exact wX11_readStory_86 C hY (wX11_readStory_108 C hY) (wX11_readStory_120 C hY) (wX11_readStory_218 C hY) ea_N _ _ _ _ _ _ hf hw (lv_sub hl [1, 2, 0] rfl)
set_option maxHeartbeats 4000000 in
set_option maxRecDepth 20000 in
theorem wX11_readStory_0 (C : ea_C p s m args meth cd cX11_readStory 4 (some .boolean) RX11) (hY : ea_Y ids) : ∀  (M : eM) (H : Heap) (locs : List Loc) (ls : Array Slot), fX11_readStory_0 M = some res → ea_w E ids M s H locs → lv_has ls 4 [(0, .ref (E.1 100))] → W p l e (ea_rm 7 157) s m args below meth cd H locs 0 0 (MQ below (ea_Qi E ids res) args s 0 0 (ea_Ad E ids)) (F0 m 0 ls []) := by
  intro M H locs ls hf  hw hl
  replace hf := (fX11_readStory_0.eq_1 ..).symm.trans hf
  refine lv_aload_n C.1 C.2.1 dX11_readStory_0 rfl (lv_at hl 0 rfl) ?_
  refine gf_X11_17 C hw (hY 100 11 rfl) dX11_readStory_1 ?_
  refine W.eq (g2 := F0 m 4 ls [.ref (E.1 102)]) rfl ?_
  refine lv_bipush (v := 19) C.1 C.2.1 dX11_readStory_4 (by decide) ?_
  refine ea_iald C hw (show ea_ok ids 102 20 from ok_11_12 (hY 100 11 rfl)) (by decide) dX11_readStory_6 ?_
  obtain ⟨y1, ey2, hf⟩ := ea_lt_s hf
  refine ea_topi ey2 ?_
  refine lv_istore_n (lv' := [(1, .int y1), (0, .ref (E.1 100))]) C.1 C.2.1 dX11_readStory_7 rfl hl (by decide) rfl (fun ls hl => ?_)
  refine lv_iload_n C.1 C.2.1 dX11_readStory_8 rfl (lv_at hl 0 rfl) ?_
  refine lv_iconst (v := 4) C.1 C.2.1 dX11_readStory_9 (by decide) ?_
  refine lv_icmp_ne (tgt := 19) C.1 C.2.1 dX11_readStory_10 (by decide) (fun hc3 => ?_) (fun hc3 => ?_)
  · replace hf := ea_if_f hc3 hf
    refine lv_aload_n C.1 C.2.1 dX11_readStory_19 rfl (lv_at hl 1 rfl) ?_
    obtain ⟨M5, he4, hf⟩ := ea_cv_s hf
    refine ea_runv hw (cl_X11_179 C hw (hY 100 11 rfl) (As := []) (rest := []) (mX11_scan (l := l) (E := E) (ids := ids) hY he4) (by decide) rfl hl.1 rfl (Nat.le_of_ble_eq_true rfl) dX11_readStory_20 ⟨Nat.le_refl _, Nat.le_refl _⟩) (fun H locs hw => ?_)
    refine lv_aload_n C.1 C.2.1 dX11_readStory_23 rfl (lv_at hl 1 rfl) ?_
    refine gf_X11_141 C hw (hY 100 11 rfl) dX11_readStory_24 ?_
    refine lv_iconst (v := 1) C.1 C.2.1 dX11_readStory_27 (by decide) ?_
    refine lv_icmp_eq (tgt := 37) C.1 C.2.1 dX11_readStory_28 (by decide) (fun hc6 => ?_) (fun hc6 => ?_)
    · replace hf := ea_if_t hc6 hf
      refine lv_iconst (v := 0) C.1 C.2.1 dX11_readStory_37 (by decide) ?_
      refine lv_istore_n (lv' := [(2, .int (0 : Int32)), (1, .int y1), (0, .ref (E.1 100))]) C.1 C.2.1 dX11_readStory_38 rfl hl (by decide) rfl (fun ls hl => ?_)
      exact wX11_readStory_39 C hY (wX11_readStory_58 C hY) (wX11_readStory_70 C hY) ea_N _ _ _ _ _ _ hf hw (lv_sub hl [2, 1, 0] rfl)
    · replace hf := ea_if_f hc6 hf
      refine lv_aload_n C.1 C.2.1 dX11_readStory_31 rfl (lv_at hl 1 rfl) ?_
      refine lv_iconst (v := 1) C.1 C.2.1 dX11_readStory_32 (by decide) ?_
      obtain ⟨r8, M9, he7, hf⟩ := ea_ci_s hf
      refine ea_runi2 hw (cl_X11_169 C hw (hY 100 11 rfl) (As := [.int (1 : Int32)]) (rest := []) (mX11_fails (l := l) (E := E) (ids := ids) hY he7) (by decide) rfl hl.1 rfl (Nat.le_of_ble_eq_true rfl) dX11_readStory_33 ⟨Nat.le_refl _, Nat.le_refl _⟩) (fun H locs hw => ?_)
      obtain ⟨hc10, hf⟩ := ea_ck_s hf
      exact ea_zret C hw (ea_01_s hc10) hf dX11_readStory_36
  · replace hf := ea_if_t hc3 hf
    refine lv_aload_n C.1 C.2.1 dX11_readStory_13 rfl (lv_at hl 1 rfl) ?_
    refine lv_iconst (v := 4) C.1 C.2.1 dX11_readStory_14 (by decide) ?_
    obtain ⟨r12, M13, he11, hf⟩ := ea_ci_s hf
    refine ea_runi2 hw (cl_X11_169 C hw (hY 100 11 rfl) (As := [.int (4 : Int32)]) (rest := []) (mX11_fails (l := l) (E := E) (ids := ids) hY he11) (by decide) rfl hl.1 rfl (Nat.le_of_ble_eq_true rfl) dX11_readStory_15 ⟨Nat.le_refl _, Nat.le_refl _⟩) (fun H locs hw => ?_)
    obtain ⟨hc14, hf⟩ := ea_ck_s hf
    exact ea_zret C hw (ea_01_s hc14) hf dX11_readStory_18
set_option maxHeartbeats 4000000 in
set_option maxRecDepth 20000 in
theorem mX11_readStory {l : Launch} {E : eE} {ids : List Nat} (hY : ea_Y ids) {M : eM} {res : Int32 × eM} (hf : fX11_readStory M = some res) : ea_Mi l yX11_readStory cX11_readStory 4 (some .boolean) 7 157 E ids [.ref (E.1 100)] M res := by
  refine ea_goi (by decide) (Nat.le_of_ble_eq_true rfl) wc_X11_readStory ?_
  intro p e s m below meth cd ls C hw hl
  exact wX11_readStory_0 C hY  _ _ _ _ hf hw hl
end SX11_readStory

def fX11_readStuff_39 (k58 : eM → Option (Int32 × eM)) (k70 : Int32 → eM → Option (Int32 × eM)) : Nat → Int32 → Int32 → eM → Option (Int32 × eM)
  | 0, _, _, _ => none
  | n + 1, x1, x2, M => if x1 ≤ x2 then (k70 x1 M) else (ea_ck (ea_ix x2 (ea_len 103)) (if (lg_cmp (M.2.1 103 x2.toNatClampNeg) (M.2.1 100 10)) = 0 then (k58 M) else (fX11_readStuff_39 k58 k70 n x1 (x2 + (1 : Int32)) M)))
def fX11_readStuff_58 (M : eM) : Option (Int32 × eM) := ea_ci (fX11_fails (3 : Int32) M) (fun r2 M3 => ea_ck (ea_01 r2) (some (r2, M3)))
def fX11_readStuff_161 (k86 : Int32 → Int32 → eM → Option (Int32 × eM)) (x1 : Int32) (x2 : Int32) (M : eM) : Option (Int32 × eM) := ea_ck (ea_ix (((6 : Int32) * ((5 : Int32) + x1)) + x2) (ea_len 106)) (k86 x1 (x2 + (1 : Int32)) (ea_pI M 106 ((((6 : Int32) * ((5 : Int32) + x1)) + x2).toNatClampNeg) (M.1 100 11)))
def fX11_readStuff_86 (k184 : eM → Option (Int32 × eM)) : Nat → Int32 → Int32 → eM → Option (Int32 × eM)
  | 0, _, _, _ => none
  | n + 1, x1, x2, M => if (6 : Int32) ≤ x2 then (k184 M) else (if (3 : Int32) ≤ x2 then (if x2 = (3 : Int32) then (ea_ci (fX11_readNumber (0 : Int32) (1000 : Int32) M) (fun r14 M15 => if r14 = 0 then (some ((0 : Int32), M15)) else (fX11_readStuff_161 (fX11_readStuff_86 k184 n) x1 x2 M15))) else (if x2 = (4 : Int32) then (ea_ci (fX11_readNumber (1 : Int32) (999 : Int32) M) (fun r10 M11 => if r10 = 0 then (some ((0 : Int32), M11)) else (fX11_readStuff_161 (fX11_readStuff_86 k184 n) x1 x2 M11))) else (ea_ci (fX11_readNumber (1 : Int32) (9999 : Int32) M) (fun r6 M7 => if r6 = 0 then (some ((0 : Int32), M7)) else (fX11_readStuff_161 (fX11_readStuff_86 k184 n) x1 x2 M7))))) else (ea_ci (fX11_readNumber (0 : Int32) (99 : Int32) M) (fun r18 M19 => if r18 = 0 then (some ((0 : Int32), M19)) else (fX11_readStuff_161 (fX11_readStuff_86 k184 n) x1 x2 M19))))
def fX11_readStuff_184 (M : eM) : Option (Int32 × eM) := some ((1 : Int32), ea_pI M 102 ((18 : Int32).toNatClampNeg) ((M.1 102 (18 : Int32).toNatClampNeg) + (1 : Int32)))
def fX11_readStuff_70 (x1 : Int32) (M : eM) : Option (Int32 × eM) := ea_ck (ea_ix x1 (ea_len 103)) (ea_cv (fX11_scan (ea_pL M 103 (x1.toNatClampNeg) (M.2.1 100 10))) (fun M3 => fX11_readStuff_86 (fX11_readStuff_184) ea_N x1 (0 : Int32) M3))
def fX11_readStuff_0 (M : eM) : Option (Int32 × eM) := ea_lt (M.1 102 (18 : Int32).toNatClampNeg) (fun y1 => if y1 = (5 : Int32) then (ea_ci (fX11_fails (4 : Int32) M) (fun r12 M13 => ea_ck (ea_01 r12) (some (r12, M13)))) else (ea_cv (fX11_scan M) (fun M5 => if (M5.1 100 3) = (1 : Int32) then (fX11_readStuff_39 (fX11_readStuff_58) (fX11_readStuff_70) ea_N y1 (0 : Int32) M5) else (ea_ci (fX11_fails (1 : Int32) M5) (fun r8 M9 => ea_ck (ea_01 r8) (some (r8, M9)))))))
def fX11_readStuff (M : eM) : Option (Int32 × eM) := fX11_readStuff_0 M
section SX11_readStuff
variable {p : Program} {l : Launch} {e : Env} {s : State} {m : MethodId} {args : Array Value} {below : List Frame} {meth : Method} {cd : Code} {E : eE} {ids : List Nat} {res : Int32 × eM}
set_option maxHeartbeats 4000000 in
set_option maxRecDepth 20000 in
theorem wX11_readStuff_39 (C : ea_C p s m args meth cd cX11_readStuff 3 (some .boolean) RX11) (hY : ea_Y ids) {k58 : eM → Option (Int32 × eM)} (hk58 : ∀  (M : eM) (H : Heap) (locs : List Loc) (ls : Array Slot), k58 M = some res → ea_w E ids M s H locs → lv_has ls 3 [(0, .ref (E.1 100))] → W p l e (ea_rm 7 157) s m args below meth cd H locs 0 0 (MQ below (ea_Qi E ids res) args s 0 0 (ea_Ad E ids)) (F0 m 58 ls [])) {k70 : Int32 → eM → Option (Int32 × eM)} (hk70 : ∀ (x1 : Int32) (M : eM) (H : Heap) (locs : List Loc) (ls : Array Slot), k70 x1 M = some res → ea_w E ids M s H locs → lv_has ls 3 [(0, .ref (E.1 100)), (1, .int x1)] → W p l e (ea_rm 7 157) s m args below meth cd H locs 0 0 (MQ below (ea_Qi E ids res) args s 0 0 (ea_Ad E ids)) (F0 m 70 ls [])) : ∀ (n : Nat) (x1 : Int32) (x2 : Int32) (M : eM) (H : Heap) (locs : List Loc) (ls : Array Slot), fX11_readStuff_39 k58 k70 n x1 x2 M = some res → ea_w E ids M s H locs → lv_has ls 3 [(0, .ref (E.1 100)), (1, .int x1), (2, .int x2)] → W p l e (ea_rm 7 157) s m args below meth cd H locs 0 0 (MQ below (ea_Qi E ids res) args s 0 0 (ea_Ad E ids)) (F0 m 39 ls []) := by
  intro n
  induction n with
  | zero => intro x1 x2 M H locs ls hf; cases hf
  | succ n ih =>
    intro x1 x2 M H locs ls hf  hw hl
    replace hf := (fX11_readStuff_39.eq_2 ..).symm.trans hf
    refine lv_iload_n C.1 C.2.1 dX11_readStuff_39 rfl (lv_at hl 2 rfl) ?_
    refine lv_iload_n C.1 C.2.1 dX11_readStuff_40 rfl (lv_at hl 1 rfl) ?_
    refine lv_icmp_ge (tgt := 70) C.1 C.2.1 dX11_readStuff_41 (by decide) (fun hc1 => ?_) (fun hc1 => ?_)
    · replace hf := ea_if_t hc1 hf
      exact hk70 _ _ _ _ _ hf hw (lv_sub hl [0, 1] rfl)
    · replace hf := ea_if_f hc1 hf
      refine lv_aload_n C.1 C.2.1 dX11_readStuff_44 rfl (lv_at hl 0 rfl) ?_
      refine gf_X11_21 C hw (hY 100 11 rfl) dX11_readStuff_45 ?_
      refine W.eq (g2 := F0 m 48 ls [.ref (E.1 103)]) rfl ?_
      refine lv_iload_n C.1 C.2.1 dX11_readStuff_48 rfl (lv_at hl 2 rfl) ?_
      obtain ⟨hc2, hf⟩ := ea_ck_s hf
      refine ea_lald C hw (show ea_ok ids 103 21 from ok_11_13 (hY 100 11 rfl)) hc2 dX11_readStuff_49 ?_
      refine lv_aload_n C.1 C.2.1 dX11_readStuff_50 rfl (lv_at hl 0 rfl) ?_
      refine gf_X11_148 C hw (hY 100 11 rfl) dX11_readStuff_51 ?_
      refine W.lcmp C.1 C.2.1 dX11_readStuff_54 ?_
      refine lv_if_ne (tgt := 64) C.1 C.2.1 dX11_readStuff_55 (by decide) (fun hc3 => ?_) (fun hc3 => ?_)
      · replace hf := ea_if_f hc3 hf
        refine lv_iinc (v := x2 + (1 : Int32)) (lv' := [(2, .int (x2 + (1 : Int32))), (0, .ref (E.1 100)), (1, .int x1)]) C.1 C.2.1 dX11_readStuff_64 hl (k := 2) rfl rfl (by decide) rfl (fun ls hl => ?_)
        refine lv_goto (tgt := 39) C.1 C.2.1 dX11_readStuff_67 (by decide) ?_
        exact ih _ _ _ _ _ _ hf hw (lv_sub hl [1, 2, 0] rfl)
      · replace hf := ea_if_t hc3 hf
        exact hk58 _ _ _ _ hf hw (lv_sub hl [0] rfl)
set_option maxHeartbeats 4000000 in
set_option maxRecDepth 20000 in
theorem wX11_readStuff_58 (C : ea_C p s m args meth cd cX11_readStuff 3 (some .boolean) RX11) (hY : ea_Y ids) : ∀  (M : eM) (H : Heap) (locs : List Loc) (ls : Array Slot), fX11_readStuff_58 M = some res → ea_w E ids M s H locs → lv_has ls 3 [(0, .ref (E.1 100))] → W p l e (ea_rm 7 157) s m args below meth cd H locs 0 0 (MQ below (ea_Qi E ids res) args s 0 0 (ea_Ad E ids)) (F0 m 58 ls []) := by
  intro M H locs ls hf  hw hl
  replace hf := (fX11_readStuff_58.eq_1 ..).symm.trans hf
  refine lv_aload_n C.1 C.2.1 dX11_readStuff_58 rfl (lv_at hl 0 rfl) ?_
  refine lv_iconst (v := 3) C.1 C.2.1 dX11_readStuff_59 (by decide) ?_
  obtain ⟨r2, M3, he1, hf⟩ := ea_ci_s hf
  refine ea_runi2 hw (cl_X11_169 C hw (hY 100 11 rfl) (As := [.int (3 : Int32)]) (rest := []) (mX11_fails (l := l) (E := E) (ids := ids) hY he1) (by decide) rfl hl.1 rfl (Nat.le_of_ble_eq_true rfl) dX11_readStuff_60 ⟨Nat.le_refl _, Nat.le_refl _⟩) (fun H locs hw => ?_)
  obtain ⟨hc4, hf⟩ := ea_ck_s hf
  exact ea_zret C hw (ea_01_s hc4) hf dX11_readStuff_63
set_option maxHeartbeats 4000000 in
set_option maxRecDepth 20000 in
theorem wX11_readStuff_161 (C : ea_C p s m args meth cd cX11_readStuff 3 (some .boolean) RX11) (hY : ea_Y ids) {k86 : Int32 → Int32 → eM → Option (Int32 × eM)} (hk86 : ∀ (x1 : Int32) (x2 : Int32) (M : eM) (H : Heap) (locs : List Loc) (ls : Array Slot), k86 x1 x2 M = some res → ea_w E ids M s H locs → lv_has ls 3 [(0, .ref (E.1 100)), (1, .int x1), (2, .int x2)] → W p l e (ea_rm 7 157) s m args below meth cd H locs 0 0 (MQ below (ea_Qi E ids res) args s 0 0 (ea_Ad E ids)) (F0 m 86 ls [])) : ∀ (x1 : Int32) (x2 : Int32) (M : eM) (H : Heap) (locs : List Loc) (ls : Array Slot), fX11_readStuff_161 k86 x1 x2 M = some res → ea_w E ids M s H locs → lv_has ls 3 [(0, .ref (E.1 100)), (1, .int x1), (2, .int x2)] → W p l e (ea_rm 7 157) s m args below meth cd H locs 0 0 (MQ below (ea_Qi E ids res) args s 0 0 (ea_Ad E ids)) (F0 m 161 ls []) := by
  intro x1 x2 M H locs ls hf  hw hl
  replace hf := (fX11_readStuff_161.eq_1 ..).symm.trans hf
  refine lv_aload_n C.1 C.2.1 dX11_readStuff_161 rfl (lv_at hl 0 rfl) ?_
  refine gf_X11_31 C hw (hY 100 11 rfl) dX11_readStuff_162 ?_
  refine W.eq (g2 := F0 m 165 ls [.ref (E.1 106)]) rfl ?_
  refine lv_bipush (v := 6) C.1 C.2.1 dX11_readStuff_165 (by decide) ?_
  refine lv_iconst (v := 5) C.1 C.2.1 dX11_readStuff_167 (by decide) ?_
  refine lv_iload_n C.1 C.2.1 dX11_readStuff_168 rfl (lv_at hl 1 rfl) ?_
  refine lv_iadd C.1 C.2.1 dX11_readStuff_169 ?_
  refine lv_imul C.1 C.2.1 dX11_readStuff_170 ?_
  refine lv_iload_n C.1 C.2.1 dX11_readStuff_171 rfl (lv_at hl 2 rfl) ?_
  refine lv_iadd C.1 C.2.1 dX11_readStuff_172 ?_
  refine lv_aload_n C.1 C.2.1 dX11_readStuff_173 rfl (lv_at hl 0 rfl) ?_
  refine gf_X11_176 C hw (hY 100 11 rfl) dX11_readStuff_174 ?_
  obtain ⟨hc1, hf⟩ := ea_ck_s hf
  refine ea_iast C hw (show ea_ok ids 106 20 from ok_11_16 (hY 100 11 rfl)) hc1 dX11_readStuff_177 (fun H locs hw => ?_)
  refine lv_iinc (v := x2 + (1 : Int32)) (lv' := [(2, .int (x2 + (1 : Int32))), (0, .ref (E.1 100)), (1, .int x1)]) C.1 C.2.1 dX11_readStuff_178 hl (k := 2) rfl rfl (by decide) rfl (fun ls hl => ?_)
  refine lv_goto (tgt := 86) C.1 C.2.1 dX11_readStuff_181 (by decide) ?_
  exact hk86 _ _ _ _ _ _ hf hw (lv_sub hl [1, 2, 0] rfl)
set_option maxHeartbeats 4000000 in
set_option maxRecDepth 20000 in
theorem wX11_readStuff_86 (C : ea_C p s m args meth cd cX11_readStuff 3 (some .boolean) RX11) (hY : ea_Y ids) {k184 : eM → Option (Int32 × eM)} (hk184 : ∀  (M : eM) (H : Heap) (locs : List Loc) (ls : Array Slot), k184 M = some res → ea_w E ids M s H locs → lv_has ls 3 [(0, .ref (E.1 100))] → W p l e (ea_rm 7 157) s m args below meth cd H locs 0 0 (MQ below (ea_Qi E ids res) args s 0 0 (ea_Ad E ids)) (F0 m 184 ls [])) : ∀ (n : Nat) (x1 : Int32) (x2 : Int32) (M : eM) (H : Heap) (locs : List Loc) (ls : Array Slot), fX11_readStuff_86 k184 n x1 x2 M = some res → ea_w E ids M s H locs → lv_has ls 3 [(0, .ref (E.1 100)), (1, .int x1), (2, .int x2)] → W p l e (ea_rm 7 157) s m args below meth cd H locs 0 0 (MQ below (ea_Qi E ids res) args s 0 0 (ea_Ad E ids)) (F0 m 86 ls []) := by
  intro n
  induction n with
  | zero => intro x1 x2 M H locs ls hf; cases hf
  | succ n ih =>
    intro x1 x2 M H locs ls hf  hw hl
    replace hf := (fX11_readStuff_86.eq_2 ..).symm.trans hf
    refine lv_iload_n C.1 C.2.1 dX11_readStuff_86 rfl (lv_at hl 2 rfl) ?_
    refine lv_bipush (v := 6) C.1 C.2.1 dX11_readStuff_87 (by decide) ?_
    refine lv_icmp_ge (tgt := 184) C.1 C.2.1 dX11_readStuff_89 (by decide) (fun hc1 => ?_) (fun hc1 => ?_)
    · replace hf := ea_if_t hc1 hf
      exact hk184 _ _ _ _ hf hw (lv_sub hl [0] rfl)
    · replace hf := ea_if_f hc1 hf
      refine lv_iload_n C.1 C.2.1 dX11_readStuff_92 rfl (lv_at hl 2 rfl) ?_
      refine lv_iconst (v := 3) C.1 C.2.1 dX11_readStuff_93 (by decide) ?_
      refine lv_icmp_ge (tgt := 110) C.1 C.2.1 dX11_readStuff_94 (by decide) (fun hc2 => ?_) (fun hc2 => ?_)
      · replace hf := ea_if_t hc2 hf
        refine lv_iload_n C.1 C.2.1 dX11_readStuff_110 rfl (lv_at hl 2 rfl) ?_
        refine lv_iconst (v := 3) C.1 C.2.1 dX11_readStuff_111 (by decide) ?_
        refine lv_icmp_ne (tgt := 129) C.1 C.2.1 dX11_readStuff_112 (by decide) (fun hc3 => ?_) (fun hc3 => ?_)
        · replace hf := ea_if_f hc3 hf
          refine lv_iload_n C.1 C.2.1 dX11_readStuff_129 rfl (lv_at hl 2 rfl) ?_
          refine lv_iconst (v := 4) C.1 C.2.1 dX11_readStuff_130 (by decide) ?_
          refine lv_icmp_ne (tgt := 148) C.1 C.2.1 dX11_readStuff_131 (by decide) (fun hc4 => ?_) (fun hc4 => ?_)
          · replace hf := ea_if_f hc4 hf
            refine lv_aload_n C.1 C.2.1 dX11_readStuff_148 rfl (lv_at hl 0 rfl) ?_
            refine lv_iconst (v := 1) C.1 C.2.1 dX11_readStuff_149 (by decide) ?_
            refine lv_sipush (v := 9999) C.1 C.2.1 dX11_readStuff_150 (by decide) ?_
            obtain ⟨r6, M7, he5, hf⟩ := ea_ci_s hf
            refine ea_runi2 hw (cl_X11_196 C hw (hY 100 11 rfl) (As := [.int (1 : Int32), .int (9999 : Int32)]) (rest := []) (mX11_readNumber (l := l) (E := E) (ids := ids) hY he5) (by decide) rfl hl.1 rfl (Nat.le_of_ble_eq_true rfl) dX11_readStuff_153 ⟨Nat.le_refl _, Nat.le_refl _⟩) (fun H locs hw => ?_)
            refine lv_if_ne (tgt := 161) C.1 C.2.1 dX11_readStuff_156 (by decide) (fun hc8 => ?_) (fun hc8 => ?_)
            · replace hf := ea_if_f hc8 hf
              exact wX11_readStuff_161 C hY ih _ _ _ _ _ _ hf hw (lv_sub hl [0, 1, 2] rfl)
            · replace hf := ea_if_t hc8 hf
              refine lv_iconst (v := 0) C.1 C.2.1 dX11_readStuff_159 (by decide) ?_
              exact ea_zret C hw (by decide) hf dX11_readStuff_160
          · replace hf := ea_if_t hc4 hf
            refine lv_aload_n C.1 C.2.1 dX11_readStuff_134 rfl (lv_at hl 0 rfl) ?_
            refine lv_iconst (v := 1) C.1 C.2.1 dX11_readStuff_135 (by decide) ?_
            refine lv_sipush (v := 999) C.1 C.2.1 dX11_readStuff_136 (by decide) ?_
            obtain ⟨r10, M11, he9, hf⟩ := ea_ci_s hf
            refine ea_runi2 hw (cl_X11_196 C hw (hY 100 11 rfl) (As := [.int (1 : Int32), .int (999 : Int32)]) (rest := []) (mX11_readNumber (l := l) (E := E) (ids := ids) hY he9) (by decide) rfl hl.1 rfl (Nat.le_of_ble_eq_true rfl) dX11_readStuff_139 ⟨Nat.le_refl _, Nat.le_refl _⟩) (fun H locs hw => ?_)
            refine lv_if_eq (tgt := 159) C.1 C.2.1 dX11_readStuff_142 (by decide) (fun hc12 => ?_) (fun hc12 => ?_)
            · replace hf := ea_if_t hc12 hf
              refine lv_iconst (v := 0) C.1 C.2.1 dX11_readStuff_159 (by decide) ?_
              exact ea_zret C hw (by decide) hf dX11_readStuff_160
            · replace hf := ea_if_f hc12 hf
              refine lv_goto (tgt := 161) C.1 C.2.1 dX11_readStuff_145 (by decide) ?_
              exact wX11_readStuff_161 C hY ih _ _ _ _ _ _ hf hw (lv_sub hl [0, 1, 2] rfl)
        · replace hf := ea_if_t hc3 hf
          refine lv_aload_n C.1 C.2.1 dX11_readStuff_115 rfl (lv_at hl 0 rfl) ?_
          refine lv_iconst (v := 0) C.1 C.2.1 dX11_readStuff_116 (by decide) ?_
          refine lv_sipush (v := 1000) C.1 C.2.1 dX11_readStuff_117 (by decide) ?_
          obtain ⟨r14, M15, he13, hf⟩ := ea_ci_s hf
          refine ea_runi2 hw (cl_X11_196 C hw (hY 100 11 rfl) (As := [.int (0 : Int32), .int (1000 : Int32)]) (rest := []) (mX11_readNumber (l := l) (E := E) (ids := ids) hY he13) (by decide) rfl hl.1 rfl (Nat.le_of_ble_eq_true rfl) dX11_readStuff_120 ⟨Nat.le_refl _, Nat.le_refl _⟩) (fun H locs hw => ?_)
          refine lv_if_eq (tgt := 159) C.1 C.2.1 dX11_readStuff_123 (by decide) (fun hc16 => ?_) (fun hc16 => ?_)
          · replace hf := ea_if_t hc16 hf
            refine lv_iconst (v := 0) C.1 C.2.1 dX11_readStuff_159 (by decide) ?_
            exact ea_zret C hw (by decide) hf dX11_readStuff_160
          · replace hf := ea_if_f hc16 hf
            refine lv_goto (tgt := 161) C.1 C.2.1 dX11_readStuff_126 (by decide) ?_
            exact wX11_readStuff_161 C hY ih _ _ _ _ _ _ hf hw (lv_sub hl [0, 1, 2] rfl)
      · replace hf := ea_if_f hc2 hf
        refine lv_aload_n C.1 C.2.1 dX11_readStuff_97 rfl (lv_at hl 0 rfl) ?_
        refine lv_iconst (v := 0) C.1 C.2.1 dX11_readStuff_98 (by decide) ?_
        refine lv_bipush (v := 99) C.1 C.2.1 dX11_readStuff_99 (by decide) ?_
        obtain ⟨r18, M19, he17, hf⟩ := ea_ci_s hf
        refine ea_runi2 hw (cl_X11_196 C hw (hY 100 11 rfl) (As := [.int (0 : Int32), .int (99 : Int32)]) (rest := []) (mX11_readNumber (l := l) (E := E) (ids := ids) hY he17) (by decide) rfl hl.1 rfl (Nat.le_of_ble_eq_true rfl) dX11_readStuff_101 ⟨Nat.le_refl _, Nat.le_refl _⟩) (fun H locs hw => ?_)
        refine lv_if_eq (tgt := 159) C.1 C.2.1 dX11_readStuff_104 (by decide) (fun hc20 => ?_) (fun hc20 => ?_)
        · replace hf := ea_if_t hc20 hf
          refine lv_iconst (v := 0) C.1 C.2.1 dX11_readStuff_159 (by decide) ?_
          exact ea_zret C hw (by decide) hf dX11_readStuff_160
        · replace hf := ea_if_f hc20 hf
          refine lv_goto (tgt := 161) C.1 C.2.1 dX11_readStuff_107 (by decide) ?_
          exact wX11_readStuff_161 C hY ih _ _ _ _ _ _ hf hw (lv_sub hl [0, 1, 2] rfl)
set_option maxHeartbeats 4000000 in
set_option maxRecDepth 20000 in
theorem wX11_readStuff_184 (C : ea_C p s m args meth cd cX11_readStuff 3 (some .boolean) RX11) (hY : ea_Y ids) : ∀  (M : eM) (H : Heap) (locs : List Loc) (ls : Array Slot), fX11_readStuff_184 M = some res → ea_w E ids M s H locs → lv_has ls 3 [(0, .ref (E.1 100))] → W p l e (ea_rm 7 157) s m args below meth cd H locs 0 0 (MQ below (ea_Qi E ids res) args s 0 0 (ea_Ad E ids)) (F0 m 184 ls []) := by
  intro M H locs ls hf  hw hl
  replace hf := (fX11_readStuff_184.eq_1 ..).symm.trans hf
  refine lv_aload_n C.1 C.2.1 dX11_readStuff_184 rfl (lv_at hl 0 rfl) ?_
  refine gf_X11_17 C hw (hY 100 11 rfl) dX11_readStuff_185 ?_
  refine W.eq (g2 := F0 m 188 ls [.ref (E.1 102)]) rfl ?_
  refine lv_bipush (v := 18) C.1 C.2.1 dX11_readStuff_188 (by decide) ?_
  refine lv_dup2_11 C.1 C.2.1 dX11_readStuff_190 rfl rfl ?_
  refine ea_iald C hw (show ea_ok ids 102 20 from ok_11_12 (hY 100 11 rfl)) (by decide) dX11_readStuff_191 ?_
  refine lv_iconst (v := 1) C.1 C.2.1 dX11_readStuff_192 (by decide) ?_
  refine lv_iadd C.1 C.2.1 dX11_readStuff_193 ?_
  refine ea_iast C hw (show ea_ok ids 102 20 from ok_11_12 (hY 100 11 rfl)) (by decide) dX11_readStuff_194 (fun H locs hw => ?_)
  refine lv_iconst (v := 1) C.1 C.2.1 dX11_readStuff_195 (by decide) ?_
  exact ea_zret C hw (by decide) hf dX11_readStuff_196
set_option maxHeartbeats 4000000 in
set_option maxRecDepth 20000 in
theorem wX11_readStuff_70 (C : ea_C p s m args meth cd cX11_readStuff 3 (some .boolean) RX11) (hY : ea_Y ids) : ∀ (x1 : Int32) (M : eM) (H : Heap) (locs : List Loc) (ls : Array Slot), fX11_readStuff_70 x1 M = some res → ea_w E ids M s H locs → lv_has ls 3 [(0, .ref (E.1 100)), (1, .int x1)] → W p l e (ea_rm 7 157) s m args below meth cd H locs 0 0 (MQ below (ea_Qi E ids res) args s 0 0 (ea_Ad E ids)) (F0 m 70 ls []) := by
  intro x1 M H locs ls hf  hw hl
  replace hf := (fX11_readStuff_70.eq_1 ..).symm.trans hf
  refine lv_aload_n C.1 C.2.1 dX11_readStuff_70 rfl (lv_at hl 0 rfl) ?_
  refine gf_X11_21 C hw (hY 100 11 rfl) dX11_readStuff_71 ?_
  refine W.eq (g2 := F0 m 74 ls [.ref (E.1 103)]) rfl ?_
  refine lv_iload_n C.1 C.2.1 dX11_readStuff_74 rfl (lv_at hl 1 rfl) ?_
  refine lv_aload_n C.1 C.2.1 dX11_readStuff_75 rfl (lv_at hl 0 rfl) ?_
  refine gf_X11_148 C hw (hY 100 11 rfl) dX11_readStuff_76 ?_
  obtain ⟨hc1, hf⟩ := ea_ck_s hf
  refine ea_last C hw (show ea_ok ids 103 21 from ok_11_13 (hY 100 11 rfl)) hc1 dX11_readStuff_79 (fun H locs hw => ?_)
  refine lv_aload_n C.1 C.2.1 dX11_readStuff_80 rfl (lv_at hl 0 rfl) ?_
  obtain ⟨M3, he2, hf⟩ := ea_cv_s hf
  refine ea_runv hw (cl_X11_179 C hw (hY 100 11 rfl) (As := []) (rest := []) (mX11_scan (l := l) (E := E) (ids := ids) hY he2) (by decide) rfl hl.1 rfl (Nat.le_of_ble_eq_true rfl) dX11_readStuff_81 ⟨Nat.le_refl _, Nat.le_refl _⟩) (fun H locs hw => ?_)
  refine lv_iconst (v := 0) C.1 C.2.1 dX11_readStuff_84 (by decide) ?_
  refine lv_istore_n (lv' := [(2, .int (0 : Int32)), (0, .ref (E.1 100)), (1, .int x1)]) C.1 C.2.1 dX11_readStuff_85 rfl hl (by decide) rfl (fun ls hl => ?_)
  exact wX11_readStuff_86 C hY (wX11_readStuff_184 C hY) ea_N _ _ _ _ _ _ hf hw (lv_sub hl [1, 2, 0] rfl)
set_option maxHeartbeats 4000000 in
set_option maxRecDepth 20000 in
theorem wX11_readStuff_0 (C : ea_C p s m args meth cd cX11_readStuff 3 (some .boolean) RX11) (hY : ea_Y ids) : ∀  (M : eM) (H : Heap) (locs : List Loc) (ls : Array Slot), fX11_readStuff_0 M = some res → ea_w E ids M s H locs → lv_has ls 3 [(0, .ref (E.1 100))] → W p l e (ea_rm 7 157) s m args below meth cd H locs 0 0 (MQ below (ea_Qi E ids res) args s 0 0 (ea_Ad E ids)) (F0 m 0 ls []) := by
  intro M H locs ls hf  hw hl
  replace hf := (fX11_readStuff_0.eq_1 ..).symm.trans hf
  refine lv_aload_n C.1 C.2.1 dX11_readStuff_0 rfl (lv_at hl 0 rfl) ?_
  refine gf_X11_17 C hw (hY 100 11 rfl) dX11_readStuff_1 ?_
  refine W.eq (g2 := F0 m 4 ls [.ref (E.1 102)]) rfl ?_
  refine lv_bipush (v := 18) C.1 C.2.1 dX11_readStuff_4 (by decide) ?_
  refine ea_iald C hw (show ea_ok ids 102 20 from ok_11_12 (hY 100 11 rfl)) (by decide) dX11_readStuff_6 ?_
  obtain ⟨y1, ey2, hf⟩ := ea_lt_s hf
  refine ea_topi ey2 ?_
  refine lv_istore_n (lv' := [(1, .int y1), (0, .ref (E.1 100))]) C.1 C.2.1 dX11_readStuff_7 rfl hl (by decide) rfl (fun ls hl => ?_)
  refine lv_iload_n C.1 C.2.1 dX11_readStuff_8 rfl (lv_at hl 0 rfl) ?_
  refine lv_iconst (v := 5) C.1 C.2.1 dX11_readStuff_9 (by decide) ?_
  refine lv_icmp_ne (tgt := 19) C.1 C.2.1 dX11_readStuff_10 (by decide) (fun hc3 => ?_) (fun hc3 => ?_)
  · replace hf := ea_if_f hc3 hf
    refine lv_aload_n C.1 C.2.1 dX11_readStuff_19 rfl (lv_at hl 1 rfl) ?_
    obtain ⟨M5, he4, hf⟩ := ea_cv_s hf
    refine ea_runv hw (cl_X11_179 C hw (hY 100 11 rfl) (As := []) (rest := []) (mX11_scan (l := l) (E := E) (ids := ids) hY he4) (by decide) rfl hl.1 rfl (Nat.le_of_ble_eq_true rfl) dX11_readStuff_20 ⟨Nat.le_refl _, Nat.le_refl _⟩) (fun H locs hw => ?_)
    refine lv_aload_n C.1 C.2.1 dX11_readStuff_23 rfl (lv_at hl 1 rfl) ?_
    refine gf_X11_141 C hw (hY 100 11 rfl) dX11_readStuff_24 ?_
    refine lv_iconst (v := 1) C.1 C.2.1 dX11_readStuff_27 (by decide) ?_
    refine lv_icmp_eq (tgt := 37) C.1 C.2.1 dX11_readStuff_28 (by decide) (fun hc6 => ?_) (fun hc6 => ?_)
    · replace hf := ea_if_t hc6 hf
      refine lv_iconst (v := 0) C.1 C.2.1 dX11_readStuff_37 (by decide) ?_
      refine lv_istore_n (lv' := [(2, .int (0 : Int32)), (1, .int y1), (0, .ref (E.1 100))]) C.1 C.2.1 dX11_readStuff_38 rfl hl (by decide) rfl (fun ls hl => ?_)
      exact wX11_readStuff_39 C hY (wX11_readStuff_58 C hY) (wX11_readStuff_70 C hY) ea_N _ _ _ _ _ _ hf hw (lv_sub hl [2, 1, 0] rfl)
    · replace hf := ea_if_f hc6 hf
      refine lv_aload_n C.1 C.2.1 dX11_readStuff_31 rfl (lv_at hl 1 rfl) ?_
      refine lv_iconst (v := 1) C.1 C.2.1 dX11_readStuff_32 (by decide) ?_
      obtain ⟨r8, M9, he7, hf⟩ := ea_ci_s hf
      refine ea_runi2 hw (cl_X11_169 C hw (hY 100 11 rfl) (As := [.int (1 : Int32)]) (rest := []) (mX11_fails (l := l) (E := E) (ids := ids) hY he7) (by decide) rfl hl.1 rfl (Nat.le_of_ble_eq_true rfl) dX11_readStuff_33 ⟨Nat.le_refl _, Nat.le_refl _⟩) (fun H locs hw => ?_)
      obtain ⟨hc10, hf⟩ := ea_ck_s hf
      exact ea_zret C hw (ea_01_s hc10) hf dX11_readStuff_36
  · replace hf := ea_if_t hc3 hf
    refine lv_aload_n C.1 C.2.1 dX11_readStuff_13 rfl (lv_at hl 1 rfl) ?_
    refine lv_iconst (v := 4) C.1 C.2.1 dX11_readStuff_14 (by decide) ?_
    obtain ⟨r12, M13, he11, hf⟩ := ea_ci_s hf
    refine ea_runi2 hw (cl_X11_169 C hw (hY 100 11 rfl) (As := [.int (4 : Int32)]) (rest := []) (mX11_fails (l := l) (E := E) (ids := ids) hY he11) (by decide) rfl hl.1 rfl (Nat.le_of_ble_eq_true rfl) dX11_readStuff_15 ⟨Nat.le_refl _, Nat.le_refl _⟩) (fun H locs hw => ?_)
    obtain ⟨hc14, hf⟩ := ea_ck_s hf
    exact ea_zret C hw (ea_01_s hc14) hf dX11_readStuff_18
set_option maxHeartbeats 4000000 in
set_option maxRecDepth 20000 in
theorem mX11_readStuff {l : Launch} {E : eE} {ids : List Nat} (hY : ea_Y ids) {M : eM} {res : Int32 × eM} (hf : fX11_readStuff M = some res) : ea_Mi l yX11_readStuff cX11_readStuff 3 (some .boolean) 7 157 E ids [.ref (E.1 100)] M res := by
  refine ea_goi (by decide) (Nat.le_of_ble_eq_true rfl) wc_X11_readStuff ?_
  intro p e s m below meth cd ls C hw hl
  exact wX11_readStuff_0 C hY  _ _ _ _ hf hw hl
end SX11_readStuff

def fX11_readClause_224 : Nat → Int32 → eM → Option (Int32 × eM)
  | 0, _, _ => none
  | n + 1, x2, M => if (3 : Int32) ≤ x2 then (some ((1 : Int32), M)) else (ea_ci (fX11_readNumber (0 : Int32) (200 : Int32) M) (fun r3 M4 => if r3 = 0 then (some ((0 : Int32), M4)) else (ea_ck (ea_ix ((22 : Int32) + x2) (ea_len 102)) (fX11_readClause_224 n (x2 + (1 : Int32)) (ea_pI M4 102 (((22 : Int32) + x2).toNatClampNeg) (M4.1 100 11))))))
def fX11_readClause_16 (t0 : Int32) (M : eM) : Option (Int32 × eM) := if t0 = (5 : Int32) then (ea_ci (fX11_readStuff M) (fun r52 M53 => ea_ck (ea_01 r52) (some (r52, M53)))) else (if t0 = (6 : Int32) then (ea_ci (fX11_readStory M) (fun r48 M49 => ea_ck (ea_01 r48) (some (r48, M49)))) else (if t0 = (7 : Int32) then (ea_ci (fX11_readEye M) (fun r44 M45 => ea_ck (ea_01 r44) (some (r44, M45)))) else (if t0 = (2 : Int32) then (ea_ci (fX11_readMended M) (fun r40 M41 => ea_ck (ea_01 r40) (some (r40, M41)))) else (ea_ci (fX11_in t0 (0 : Int32) (4 : Int32) M) (fun r6 M7 => if r6 = 0 then (ea_ci (fX11_fails (1 : Int32) M7) (fun r36 M37 => ea_ck (ea_01 r36) (some (r36, M37)))) else (if (((M7.1 100 21) >>> (t0 &&& 31)) &&& (1 : Int32)) = (1 : Int32) then (ea_ci (fX11_fails (3 : Int32) M7) (fun r32 M33 => ea_ck (ea_01 r32) (some (r32, M33)))) else (ea_cv (fX11_scan (ea_pI M7 100 21 ((M7.1 100 21) ||| ((1 : Int32) <<< (t0 &&& 31))))) (fun M11 => if t0 = (1 : Int32) then (ea_ci (fX11_readNumber (0 : Int32) (20 : Int32) M11) (fun r28 M29 => if r28 = 0 then (some ((0 : Int32), M29)) else (some ((1 : Int32), ea_pI M29 102 ((16 : Int32).toNatClampNeg) (M29.1 100 11))))) else (if t0 = (3 : Int32) then (ea_ci (fX11_readNumber (1 : Int32) (2 : Int32) M11) (fun r24 M25 => if r24 = 0 then (some ((0 : Int32), M25)) else (some ((1 : Int32), ea_pI M25 102 ((17 : Int32).toNatClampNeg) (M25.1 100 11))))) else (if t0 = 0 then (ea_ci (fX11_readNumber (1 : Int32) (8 : Int32) M11) (fun r16 M17 => if r16 = 0 then (some ((0 : Int32), M17)) else (ea_ci (fX11_readNumber (1 : Int32) (6 : Int32) (ea_pI M17 102 ((14 : Int32).toNatClampNeg) (M17.1 100 11))) (fun r20 M21 => if r20 = 0 then (some ((0 : Int32), M21)) else (some ((1 : Int32), ea_pI M21 102 ((15 : Int32).toNatClampNeg) (M21.1 100 11))))))) else (fX11_readClause_224 ea_N (0 : Int32) M11)))))))))))
def fX11_readClause_0 (M : eM) : Option (Int32 × eM) := if (M.1 100 3) = (1 : Int32) then (fX11_readClause_16 (M.1 100 4) M) else (fX11_readClause_16 (-1 : Int32) M)
def fX11_readClause (M : eM) : Option (Int32 × eM) := fX11_readClause_0 M
section SX11_readClause
variable {p : Program} {l : Launch} {e : Env} {s : State} {m : MethodId} {args : Array Value} {below : List Frame} {meth : Method} {cd : Code} {E : eE} {ids : List Nat} {res : Int32 × eM}
set_option maxHeartbeats 4000000 in
set_option maxRecDepth 20000 in
theorem wX11_readClause_224 (C : ea_C p s m args meth cd cX11_readClause 3 (some .boolean) RX11) (hY : ea_Y ids) : ∀ (n : Nat) (x2 : Int32) (M : eM) (H : Heap) (locs : List Loc) (ls : Array Slot), fX11_readClause_224 n x2 M = some res → ea_w E ids M s H locs → lv_has ls 3 [(0, .ref (E.1 100)), (2, .int x2)] → W p l e (ea_rm 8 180) s m args below meth cd H locs 0 0 (MQ below (ea_Qi E ids res) args s 0 0 (ea_Ad E ids)) (F0 m 224 ls []) := by
  intro n
  induction n with
  | zero => intro x2 M H locs ls hf; cases hf
  | succ n ih =>
    intro x2 M H locs ls hf  hw hl
    replace hf := (fX11_readClause_224.eq_2 ..).symm.trans hf
    refine lv_iload_n C.1 C.2.1 dX11_readClause_224 rfl (lv_at hl 1 rfl) ?_
    refine lv_iconst (v := 3) C.1 C.2.1 dX11_readClause_225 (by decide) ?_
    refine lv_icmp_ge (tgt := 261) C.1 C.2.1 dX11_readClause_226 (by decide) (fun hc1 => ?_) (fun hc1 => ?_)
    · replace hf := ea_if_t hc1 hf
      refine lv_iconst (v := 1) C.1 C.2.1 dX11_readClause_261 (by decide) ?_
      exact ea_zret C hw (by decide) hf dX11_readClause_262
    · replace hf := ea_if_f hc1 hf
      refine lv_aload_n C.1 C.2.1 dX11_readClause_229 rfl (lv_at hl 0 rfl) ?_
      refine lv_iconst (v := 0) C.1 C.2.1 dX11_readClause_230 (by decide) ?_
      refine lv_sipush (v := 200) C.1 C.2.1 dX11_readClause_231 (by decide) ?_
      obtain ⟨r3, M4, he2, hf⟩ := ea_ci_s hf
      refine ea_runi2 hw (cl_X11_196 C hw (hY 100 11 rfl) (As := [.int (0 : Int32), .int (200 : Int32)]) (rest := []) (mX11_readNumber (l := l) (E := E) (ids := ids) hY he2) (by decide) rfl hl.1 rfl (Nat.le_of_ble_eq_true rfl) dX11_readClause_234 ⟨Nat.le_refl _, Nat.le_refl _⟩) (fun H locs hw => ?_)
      refine lv_if_ne (tgt := 242) C.1 C.2.1 dX11_readClause_237 (by decide) (fun hc5 => ?_) (fun hc5 => ?_)
      · replace hf := ea_if_f hc5 hf
        refine lv_aload_n C.1 C.2.1 dX11_readClause_242 rfl (lv_at hl 0 rfl) ?_
        refine gf_X11_17 C hw (hY 100 11 rfl) dX11_readClause_243 ?_
        refine W.eq (g2 := F0 m 246 ls [.ref (E.1 102)]) rfl ?_
        refine lv_bipush (v := 22) C.1 C.2.1 dX11_readClause_246 (by decide) ?_
        refine lv_iload_n C.1 C.2.1 dX11_readClause_248 rfl (lv_at hl 1 rfl) ?_
        refine lv_iadd C.1 C.2.1 dX11_readClause_249 ?_
        refine lv_aload_n C.1 C.2.1 dX11_readClause_250 rfl (lv_at hl 0 rfl) ?_
        refine gf_X11_176 C hw (hY 100 11 rfl) dX11_readClause_251 ?_
        obtain ⟨hc6, hf⟩ := ea_ck_s hf
        refine ea_iast C hw (show ea_ok ids 102 20 from ok_11_12 (hY 100 11 rfl)) hc6 dX11_readClause_254 (fun H locs hw => ?_)
        refine lv_iinc (v := x2 + (1 : Int32)) (lv' := [(2, .int (x2 + (1 : Int32))), (0, .ref (E.1 100))]) C.1 C.2.1 dX11_readClause_255 hl (k := 1) rfl rfl (by decide) rfl (fun ls hl => ?_)
        refine lv_goto (tgt := 224) C.1 C.2.1 dX11_readClause_258 (by decide) ?_
        exact ih _ _ _ _ _ hf hw (lv_sub hl [1, 0] rfl)
      · replace hf := ea_if_t hc5 hf
        refine lv_iconst (v := 0) C.1 C.2.1 dX11_readClause_240 (by decide) ?_
        exact ea_zret C hw (by decide) hf dX11_readClause_241
set_option maxHeartbeats 4000000 in
set_option maxRecDepth 20000 in
theorem wX11_readClause_16 (C : ea_C p s m args meth cd cX11_readClause 3 (some .boolean) RX11) (hY : ea_Y ids) : ∀ (t0 : Int32) (M : eM) (H : Heap) (locs : List Loc) (ls : Array Slot), fX11_readClause_16 t0 M = some res → ea_w E ids M s H locs → lv_has ls 3 [(0, .ref (E.1 100))] → W p l e (ea_rm 8 180) s m args below meth cd H locs 0 0 (MQ below (ea_Qi E ids res) args s 0 0 (ea_Ad E ids)) (F0 m 16 ls [.int t0]) := by
  intro t0 M H locs ls hf  hw hl
  replace hf := (fX11_readClause_16.eq_1 ..).symm.trans hf
  refine lv_istore_n (lv' := [(1, .int t0), (0, .ref (E.1 100))]) C.1 C.2.1 dX11_readClause_16 rfl hl (by decide) rfl (fun ls hl => ?_)
  refine lv_iload_n C.1 C.2.1 dX11_readClause_17 rfl (lv_at hl 0 rfl) ?_
  refine lv_iconst (v := 5) C.1 C.2.1 dX11_readClause_18 (by decide) ?_
  refine lv_icmp_ne (tgt := 27) C.1 C.2.1 dX11_readClause_19 (by decide) (fun hc1 => ?_) (fun hc1 => ?_)
  · replace hf := ea_if_f hc1 hf
    refine lv_iload_n C.1 C.2.1 dX11_readClause_27 rfl (lv_at hl 0 rfl) ?_
    refine lv_bipush (v := 6) C.1 C.2.1 dX11_readClause_28 (by decide) ?_
    refine lv_icmp_ne (tgt := 38) C.1 C.2.1 dX11_readClause_30 (by decide) (fun hc2 => ?_) (fun hc2 => ?_)
    · replace hf := ea_if_f hc2 hf
      refine lv_iload_n C.1 C.2.1 dX11_readClause_38 rfl (lv_at hl 0 rfl) ?_
      refine lv_bipush (v := 7) C.1 C.2.1 dX11_readClause_39 (by decide) ?_
      refine lv_icmp_ne (tgt := 49) C.1 C.2.1 dX11_readClause_41 (by decide) (fun hc3 => ?_) (fun hc3 => ?_)
      · replace hf := ea_if_f hc3 hf
        refine lv_iload_n C.1 C.2.1 dX11_readClause_49 rfl (lv_at hl 0 rfl) ?_
        refine lv_iconst (v := 2) C.1 C.2.1 dX11_readClause_50 (by decide) ?_
        refine lv_icmp_ne (tgt := 59) C.1 C.2.1 dX11_readClause_51 (by decide) (fun hc4 => ?_) (fun hc4 => ?_)
        · replace hf := ea_if_f hc4 hf
          refine lv_iload_n C.1 C.2.1 dX11_readClause_59 rfl (lv_at hl 0 rfl) ?_
          refine lv_iconst (v := 0) C.1 C.2.1 dX11_readClause_60 (by decide) ?_
          refine lv_iconst (v := 4) C.1 C.2.1 dX11_readClause_61 (by decide) ?_
          obtain ⟨r6, M7, he5, hf⟩ := ea_ci_s hf
          refine ea_runi2 hw (cl_X11_172 C hw (As := [.int t0, .int (0 : Int32), .int (4 : Int32)]) (rest := []) (mX11_in (l := l) (E := E) (ids := ids) hY he5) (by decide) rfl hl.1 rfl (Nat.le_of_ble_eq_true rfl) dX11_readClause_62 ⟨Nat.le_refl _, Nat.le_refl _⟩) (fun H locs hw => ?_)
          refine lv_if_ne (tgt := 74) C.1 C.2.1 dX11_readClause_65 (by decide) (fun hc8 => ?_) (fun hc8 => ?_)
          · replace hf := ea_if_f hc8 hf
            refine lv_aload_n C.1 C.2.1 dX11_readClause_74 rfl (lv_at hl 1 rfl) ?_
            refine gf_X11_182 C hw (hY 100 11 rfl) dX11_readClause_75 ?_
            refine lv_iload_n C.1 C.2.1 dX11_readClause_78 rfl (lv_at hl 0 rfl) ?_
            refine lv_ishr C.1 C.2.1 dX11_readClause_79 ?_
            refine lv_iconst (v := 1) C.1 C.2.1 dX11_readClause_80 (by decide) ?_
            refine lv_iand C.1 C.2.1 dX11_readClause_81 ?_
            refine lv_iconst (v := 1) C.1 C.2.1 dX11_readClause_82 (by decide) ?_
            refine lv_icmp_ne (tgt := 92) C.1 C.2.1 dX11_readClause_83 (by decide) (fun hc9 => ?_) (fun hc9 => ?_)
            · replace hf := ea_if_f hc9 hf
              refine lv_aload_n C.1 C.2.1 dX11_readClause_92 rfl (lv_at hl 1 rfl) ?_
              refine lv_dup C.1 C.2.1 dX11_readClause_93 rfl ?_
              refine gf_X11_182 C hw (hY 100 11 rfl) dX11_readClause_94 ?_
              refine lv_iconst (v := 1) C.1 C.2.1 dX11_readClause_97 (by decide) ?_
              refine lv_iload_n C.1 C.2.1 dX11_readClause_98 rfl (lv_at hl 0 rfl) ?_
              refine lv_ishl C.1 C.2.1 dX11_readClause_99 ?_
              refine lv_ior C.1 C.2.1 dX11_readClause_100 ?_
              refine pu_X11_182 C hw (hY 100 11 rfl) dX11_readClause_101 (fun H locs hw => ?_)
              refine lv_aload_n C.1 C.2.1 dX11_readClause_104 rfl (lv_at hl 1 rfl) ?_
              obtain ⟨M11, he10, hf⟩ := ea_cv_s hf
              refine ea_runv hw (cl_X11_179 C hw (hY 100 11 rfl) (As := []) (rest := []) (mX11_scan (l := l) (E := E) (ids := ids) hY he10) (by decide) rfl hl.1 rfl (Nat.le_of_ble_eq_true rfl) dX11_readClause_105 ⟨Nat.le_refl _, Nat.le_refl _⟩) (fun H locs hw => ?_)
              refine lv_iload_n C.1 C.2.1 dX11_readClause_108 rfl (lv_at hl 0 rfl) ?_
              refine lv_iconst (v := 1) C.1 C.2.1 dX11_readClause_109 (by decide) ?_
              refine lv_icmp_ne (tgt := 139) C.1 C.2.1 dX11_readClause_110 (by decide) (fun hc12 => ?_) (fun hc12 => ?_)
              · replace hf := ea_if_f hc12 hf
                refine lv_iload_n C.1 C.2.1 dX11_readClause_139 rfl (lv_at hl 0 rfl) ?_
                refine lv_iconst (v := 3) C.1 C.2.1 dX11_readClause_140 (by decide) ?_
                refine lv_icmp_ne (tgt := 169) C.1 C.2.1 dX11_readClause_141 (by decide) (fun hc13 => ?_) (fun hc13 => ?_)
                · replace hf := ea_if_f hc13 hf
                  refine lv_iload_n C.1 C.2.1 dX11_readClause_169 rfl (lv_at hl 0 rfl) ?_
                  refine lv_if_ne (tgt := 222) C.1 C.2.1 dX11_readClause_170 (by decide) (fun hc14 => ?_) (fun hc14 => ?_)
                  · replace hf := ea_if_f hc14 hf
                    refine lv_iconst (v := 0) C.1 C.2.1 dX11_readClause_222 (by decide) ?_
                    refine lv_istore_n (lv' := [(2, .int (0 : Int32)), (1, .int t0), (0, .ref (E.1 100))]) C.1 C.2.1 dX11_readClause_223 rfl hl (by decide) rfl (fun ls hl => ?_)
                    exact wX11_readClause_224 C hY ea_N _ _ _ _ _ hf hw (lv_sub hl [2, 0] rfl)
                  · replace hf := ea_if_t hc14 hf
                    refine lv_aload_n C.1 C.2.1 dX11_readClause_173 rfl (lv_at hl 1 rfl) ?_
                    refine lv_iconst (v := 1) C.1 C.2.1 dX11_readClause_174 (by decide) ?_
                    refine lv_bipush (v := 8) C.1 C.2.1 dX11_readClause_175 (by decide) ?_
                    obtain ⟨r16, M17, he15, hf⟩ := ea_ci_s hf
                    refine ea_runi2 hw (cl_X11_196 C hw (hY 100 11 rfl) (As := [.int (1 : Int32), .int (8 : Int32)]) (rest := []) (mX11_readNumber (l := l) (E := E) (ids := ids) hY he15) (by decide) rfl hl.1 rfl (Nat.le_of_ble_eq_true rfl) dX11_readClause_177 ⟨Nat.le_refl _, Nat.le_refl _⟩) (fun H locs hw => ?_)
                    refine lv_if_ne (tgt := 185) C.1 C.2.1 dX11_readClause_180 (by decide) (fun hc18 => ?_) (fun hc18 => ?_)
                    · replace hf := ea_if_f hc18 hf
                      refine lv_aload_n C.1 C.2.1 dX11_readClause_185 rfl (lv_at hl 1 rfl) ?_
                      refine gf_X11_17 C hw (hY 100 11 rfl) dX11_readClause_186 ?_
                      refine W.eq (g2 := F0 m 189 ls [.ref (E.1 102)]) rfl ?_
                      refine lv_bipush (v := 14) C.1 C.2.1 dX11_readClause_189 (by decide) ?_
                      refine lv_aload_n C.1 C.2.1 dX11_readClause_191 rfl (lv_at hl 1 rfl) ?_
                      refine gf_X11_176 C hw (hY 100 11 rfl) dX11_readClause_192 ?_
                      refine ea_iast C hw (show ea_ok ids 102 20 from ok_11_12 (hY 100 11 rfl)) (by decide) dX11_readClause_195 (fun H locs hw => ?_)
                      refine lv_aload_n C.1 C.2.1 dX11_readClause_196 rfl (lv_at hl 1 rfl) ?_
                      refine lv_iconst (v := 1) C.1 C.2.1 dX11_readClause_197 (by decide) ?_
                      refine lv_bipush (v := 6) C.1 C.2.1 dX11_readClause_198 (by decide) ?_
                      obtain ⟨r20, M21, he19, hf⟩ := ea_ci_s hf
                      refine ea_runi2 hw (cl_X11_196 C hw (hY 100 11 rfl) (As := [.int (1 : Int32), .int (6 : Int32)]) (rest := []) (mX11_readNumber (l := l) (E := E) (ids := ids) hY he19) (by decide) rfl hl.1 rfl (Nat.le_of_ble_eq_true rfl) dX11_readClause_200 ⟨Nat.le_refl _, Nat.le_refl _⟩) (fun H locs hw => ?_)
                      refine lv_if_ne (tgt := 208) C.1 C.2.1 dX11_readClause_203 (by decide) (fun hc22 => ?_) (fun hc22 => ?_)
                      · replace hf := ea_if_f hc22 hf
                        refine lv_aload_n C.1 C.2.1 dX11_readClause_208 rfl (lv_at hl 1 rfl) ?_
                        refine gf_X11_17 C hw (hY 100 11 rfl) dX11_readClause_209 ?_
                        refine W.eq (g2 := F0 m 212 ls [.ref (E.1 102)]) rfl ?_
                        refine lv_bipush (v := 15) C.1 C.2.1 dX11_readClause_212 (by decide) ?_
                        refine lv_aload_n C.1 C.2.1 dX11_readClause_214 rfl (lv_at hl 1 rfl) ?_
                        refine gf_X11_176 C hw (hY 100 11 rfl) dX11_readClause_215 ?_
                        refine ea_iast C hw (show ea_ok ids 102 20 from ok_11_12 (hY 100 11 rfl)) (by decide) dX11_readClause_218 (fun H locs hw => ?_)
                        refine lv_goto (tgt := 261) C.1 C.2.1 dX11_readClause_219 (by decide) ?_
                        refine lv_iconst (v := 1) C.1 C.2.1 dX11_readClause_261 (by decide) ?_
                        exact ea_zret C hw (by decide) hf dX11_readClause_262
                      · replace hf := ea_if_t hc22 hf
                        refine lv_iconst (v := 0) C.1 C.2.1 dX11_readClause_206 (by decide) ?_
                        exact ea_zret C hw (by decide) hf dX11_readClause_207
                    · replace hf := ea_if_t hc18 hf
                      refine lv_iconst (v := 0) C.1 C.2.1 dX11_readClause_183 (by decide) ?_
                      exact ea_zret C hw (by decide) hf dX11_readClause_184
                · replace hf := ea_if_t hc13 hf
                  refine lv_aload_n C.1 C.2.1 dX11_readClause_144 rfl (lv_at hl 1 rfl) ?_
                  refine lv_iconst (v := 1) C.1 C.2.1 dX11_readClause_145 (by decide) ?_
                  refine lv_iconst (v := 2) C.1 C.2.1 dX11_readClause_146 (by decide) ?_
                  obtain ⟨r24, M25, he23, hf⟩ := ea_ci_s hf
                  refine ea_runi2 hw (cl_X11_196 C hw (hY 100 11 rfl) (As := [.int (1 : Int32), .int (2 : Int32)]) (rest := []) (mX11_readNumber (l := l) (E := E) (ids := ids) hY he23) (by decide) rfl hl.1 rfl (Nat.le_of_ble_eq_true rfl) dX11_readClause_147 ⟨Nat.le_refl _, Nat.le_refl _⟩) (fun H locs hw => ?_)
                  refine lv_if_ne (tgt := 155) C.1 C.2.1 dX11_readClause_150 (by decide) (fun hc26 => ?_) (fun hc26 => ?_)
                  · replace hf := ea_if_f hc26 hf
                    refine lv_aload_n C.1 C.2.1 dX11_readClause_155 rfl (lv_at hl 1 rfl) ?_
                    refine gf_X11_17 C hw (hY 100 11 rfl) dX11_readClause_156 ?_
                    refine W.eq (g2 := F0 m 159 ls [.ref (E.1 102)]) rfl ?_
                    refine lv_bipush (v := 17) C.1 C.2.1 dX11_readClause_159 (by decide) ?_
                    refine lv_aload_n C.1 C.2.1 dX11_readClause_161 rfl (lv_at hl 1 rfl) ?_
                    refine gf_X11_176 C hw (hY 100 11 rfl) dX11_readClause_162 ?_
                    refine ea_iast C hw (show ea_ok ids 102 20 from ok_11_12 (hY 100 11 rfl)) (by decide) dX11_readClause_165 (fun H locs hw => ?_)
                    refine lv_goto (tgt := 261) C.1 C.2.1 dX11_readClause_166 (by decide) ?_
                    refine lv_iconst (v := 1) C.1 C.2.1 dX11_readClause_261 (by decide) ?_
                    exact ea_zret C hw (by decide) hf dX11_readClause_262
                  · replace hf := ea_if_t hc26 hf
                    refine lv_iconst (v := 0) C.1 C.2.1 dX11_readClause_153 (by decide) ?_
                    exact ea_zret C hw (by decide) hf dX11_readClause_154
              · replace hf := ea_if_t hc12 hf
                refine lv_aload_n C.1 C.2.1 dX11_readClause_113 rfl (lv_at hl 1 rfl) ?_
                refine lv_iconst (v := 0) C.1 C.2.1 dX11_readClause_114 (by decide) ?_
                refine lv_bipush (v := 20) C.1 C.2.1 dX11_readClause_115 (by decide) ?_
                obtain ⟨r28, M29, he27, hf⟩ := ea_ci_s hf
                refine ea_runi2 hw (cl_X11_196 C hw (hY 100 11 rfl) (As := [.int (0 : Int32), .int (20 : Int32)]) (rest := []) (mX11_readNumber (l := l) (E := E) (ids := ids) hY he27) (by decide) rfl hl.1 rfl (Nat.le_of_ble_eq_true rfl) dX11_readClause_117 ⟨Nat.le_refl _, Nat.le_refl _⟩) (fun H locs hw => ?_)
                refine lv_if_ne (tgt := 125) C.1 C.2.1 dX11_readClause_120 (by decide) (fun hc30 => ?_) (fun hc30 => ?_)
                · replace hf := ea_if_f hc30 hf
                  refine lv_aload_n C.1 C.2.1 dX11_readClause_125 rfl (lv_at hl 1 rfl) ?_
                  refine gf_X11_17 C hw (hY 100 11 rfl) dX11_readClause_126 ?_
                  refine W.eq (g2 := F0 m 129 ls [.ref (E.1 102)]) rfl ?_
                  refine lv_bipush (v := 16) C.1 C.2.1 dX11_readClause_129 (by decide) ?_
                  refine lv_aload_n C.1 C.2.1 dX11_readClause_131 rfl (lv_at hl 1 rfl) ?_
                  refine gf_X11_176 C hw (hY 100 11 rfl) dX11_readClause_132 ?_
                  refine ea_iast C hw (show ea_ok ids 102 20 from ok_11_12 (hY 100 11 rfl)) (by decide) dX11_readClause_135 (fun H locs hw => ?_)
                  refine lv_goto (tgt := 261) C.1 C.2.1 dX11_readClause_136 (by decide) ?_
                  refine lv_iconst (v := 1) C.1 C.2.1 dX11_readClause_261 (by decide) ?_
                  exact ea_zret C hw (by decide) hf dX11_readClause_262
                · replace hf := ea_if_t hc30 hf
                  refine lv_iconst (v := 0) C.1 C.2.1 dX11_readClause_123 (by decide) ?_
                  exact ea_zret C hw (by decide) hf dX11_readClause_124
            · replace hf := ea_if_t hc9 hf
              refine lv_aload_n C.1 C.2.1 dX11_readClause_86 rfl (lv_at hl 1 rfl) ?_
              refine lv_iconst (v := 3) C.1 C.2.1 dX11_readClause_87 (by decide) ?_
              obtain ⟨r32, M33, he31, hf⟩ := ea_ci_s hf
              refine ea_runi2 hw (cl_X11_169 C hw (hY 100 11 rfl) (As := [.int (3 : Int32)]) (rest := []) (mX11_fails (l := l) (E := E) (ids := ids) hY he31) (by decide) rfl hl.1 rfl (Nat.le_of_ble_eq_true rfl) dX11_readClause_88 ⟨Nat.le_refl _, Nat.le_refl _⟩) (fun H locs hw => ?_)
              obtain ⟨hc34, hf⟩ := ea_ck_s hf
              exact ea_zret C hw (ea_01_s hc34) hf dX11_readClause_91
          · replace hf := ea_if_t hc8 hf
            refine lv_aload_n C.1 C.2.1 dX11_readClause_68 rfl (lv_at hl 1 rfl) ?_
            refine lv_iconst (v := 1) C.1 C.2.1 dX11_readClause_69 (by decide) ?_
            obtain ⟨r36, M37, he35, hf⟩ := ea_ci_s hf
            refine ea_runi2 hw (cl_X11_169 C hw (hY 100 11 rfl) (As := [.int (1 : Int32)]) (rest := []) (mX11_fails (l := l) (E := E) (ids := ids) hY he35) (by decide) rfl hl.1 rfl (Nat.le_of_ble_eq_true rfl) dX11_readClause_70 ⟨Nat.le_refl _, Nat.le_refl _⟩) (fun H locs hw => ?_)
            obtain ⟨hc38, hf⟩ := ea_ck_s hf
            exact ea_zret C hw (ea_01_s hc38) hf dX11_readClause_73
        · replace hf := ea_if_t hc4 hf
          refine lv_aload_n C.1 C.2.1 dX11_readClause_54 rfl (lv_at hl 1 rfl) ?_
          obtain ⟨r40, M41, he39, hf⟩ := ea_ci_s hf
          refine ea_runi2 hw (cl_X11_213 C hw (hY 100 11 rfl) (As := []) (rest := []) (mX11_readMended (l := l) (E := E) (ids := ids) hY he39) (by decide) rfl hl.1 rfl (Nat.le_of_ble_eq_true rfl) dX11_readClause_55 ⟨Nat.le_refl _, Nat.le_refl _⟩) (fun H locs hw => ?_)
          obtain ⟨hc42, hf⟩ := ea_ck_s hf
          exact ea_zret C hw (ea_01_s hc42) hf dX11_readClause_58
      · replace hf := ea_if_t hc3 hf
        refine lv_aload_n C.1 C.2.1 dX11_readClause_44 rfl (lv_at hl 1 rfl) ?_
        obtain ⟨r44, M45, he43, hf⟩ := ea_ci_s hf
        refine ea_runi2 hw (cl_X11_210 C hw (hY 100 11 rfl) (As := []) (rest := []) (mX11_readEye (l := l) (E := E) (ids := ids) hY he43) (by decide) rfl hl.1 rfl (Nat.le_of_ble_eq_true rfl) dX11_readClause_45 ⟨Nat.le_refl _, Nat.le_refl _⟩) (fun H locs hw => ?_)
        obtain ⟨hc46, hf⟩ := ea_ck_s hf
        exact ea_zret C hw (ea_01_s hc46) hf dX11_readClause_48
    · replace hf := ea_if_t hc2 hf
      refine lv_aload_n C.1 C.2.1 dX11_readClause_33 rfl (lv_at hl 1 rfl) ?_
      obtain ⟨r48, M49, he47, hf⟩ := ea_ci_s hf
      refine ea_runi2 hw (cl_X11_207 C hw (hY 100 11 rfl) (As := []) (rest := []) (mX11_readStory (l := l) (E := E) (ids := ids) hY he47) (by decide) rfl hl.1 rfl (Nat.le_of_ble_eq_true rfl) dX11_readClause_34 ⟨Nat.le_refl _, Nat.le_refl _⟩) (fun H locs hw => ?_)
      obtain ⟨hc50, hf⟩ := ea_ck_s hf
      exact ea_zret C hw (ea_01_s hc50) hf dX11_readClause_37
  · replace hf := ea_if_t hc1 hf
    refine lv_aload_n C.1 C.2.1 dX11_readClause_22 rfl (lv_at hl 1 rfl) ?_
    obtain ⟨r52, M53, he51, hf⟩ := ea_ci_s hf
    refine ea_runi2 hw (cl_X11_203 C hw (hY 100 11 rfl) (As := []) (rest := []) (mX11_readStuff (l := l) (E := E) (ids := ids) hY he51) (by decide) rfl hl.1 rfl (Nat.le_of_ble_eq_true rfl) dX11_readClause_23 ⟨Nat.le_refl _, Nat.le_refl _⟩) (fun H locs hw => ?_)
    obtain ⟨hc54, hf⟩ := ea_ck_s hf
    exact ea_zret C hw (ea_01_s hc54) hf dX11_readClause_26
set_option maxHeartbeats 4000000 in
set_option maxRecDepth 20000 in
theorem wX11_readClause_0 (C : ea_C p s m args meth cd cX11_readClause 3 (some .boolean) RX11) (hY : ea_Y ids) : ∀  (M : eM) (H : Heap) (locs : List Loc) (ls : Array Slot), fX11_readClause_0 M = some res → ea_w E ids M s H locs → lv_has ls 3 [(0, .ref (E.1 100))] → W p l e (ea_rm 8 180) s m args below meth cd H locs 0 0 (MQ below (ea_Qi E ids res) args s 0 0 (ea_Ad E ids)) (F0 m 0 ls []) := by
  intro M H locs ls hf  hw hl
  replace hf := (fX11_readClause_0.eq_1 ..).symm.trans hf
  refine lv_aload_n C.1 C.2.1 dX11_readClause_0 rfl (lv_at hl 0 rfl) ?_
  refine gf_X11_141 C hw (hY 100 11 rfl) dX11_readClause_1 ?_
  refine lv_iconst (v := 1) C.1 C.2.1 dX11_readClause_4 (by decide) ?_
  refine lv_icmp_ne (tgt := 15) C.1 C.2.1 dX11_readClause_5 (by decide) (fun hc1 => ?_) (fun hc1 => ?_)
  · replace hf := ea_if_f hc1 hf
    refine lv_iconst (v := (-1 : Int32)) C.1 C.2.1 dX11_readClause_15 (by decide) ?_
    exact wX11_readClause_16 C hY _ _ _ _ _ hf hw (lv_sub hl [0] rfl)
  · replace hf := ea_if_t hc1 hf
    refine lv_aload_n C.1 C.2.1 dX11_readClause_8 rfl (lv_at hl 0 rfl) ?_
    refine gf_X11_138 C hw (hY 100 11 rfl) dX11_readClause_9 ?_
    refine lv_goto (tgt := 16) C.1 C.2.1 dX11_readClause_12 (by decide) ?_
    exact wX11_readClause_16 C hY _ _ _ _ _ hf hw (lv_sub hl [0] rfl)
set_option maxHeartbeats 4000000 in
set_option maxRecDepth 20000 in
theorem mX11_readClause {l : Launch} {E : eE} {ids : List Nat} (hY : ea_Y ids) {M : eM} {res : Int32 × eM} (hf : fX11_readClause M = some res) : ea_Mi l yX11_readClause cX11_readClause 3 (some .boolean) 8 180 E ids [.ref (E.1 100)] M res := by
  refine ea_goi (by decide) (Nat.le_of_ble_eq_true rfl) wc_X11_readClause ?_
  intro p e s m below meth cd ls C hw hl
  exact wX11_readClause_0 C hY  _ _ _ _ hf hw hl
end SX11_readClause

def fX11_cloth_38 (k63 : eM → Option (Int32 × eM)) (k81 : Int32 → eM → Option (Int32 × eM)) : Nat → Int32 → eM → Option (Int32 × eM)
  | 0, _, _ => none
  | n + 1, x1, M => if (M.1 100 3) = (4 : Int32) then (k81 x1 M) else (ea_ci (fX11_readClause M) (fun r3 M4 => if r3 = 0 then (some ((-1 : Int32), M4)) else (if (M4.1 100 3) = (3 : Int32) then (ea_cv (fX11_scan M4) (fun M8 => fX11_cloth_38 k63 k81 n (x1 + (1 : Int32)) M8)) else (k63 M4))))
def fX11_cloth_63 (M : eM) : Option (Int32 × eM) := ea_ci (fX11_fails (1 : Int32) M) (fun r2 M3 => some ((-1 : Int32), M3))
def fX11_cloth_81 (x1 : Int32) (M : eM) : Option (Int32 × eM) := ea_cv (fX11_settle M) (fun M2 => some (x1, ea_pI M2 100 20 x1))
def fX11_cloth_0 (M : eM) : Option (Int32 × eM) := ea_cv (fX11_scan (ea_pI (ea_pI (ea_pI M 100 2 (M.1 100 1)) 100 1 (0 : Int32)) 100 6 (0 : Int32))) (fun M2 => ea_cv (fX11_begin (ea_pI (ea_pI M2 100 8 (0 : Int32)) 100 9 (-1 : Int32))) (fun M4 => fX11_cloth_38 (fX11_cloth_63) (fX11_cloth_81) ea_N (0 : Int32) M4))
def fX11_cloth (M : eM) : Option (Int32 × eM) := fX11_cloth_0 M
section SX11_cloth
variable {p : Program} {l : Launch} {e : Env} {s : State} {m : MethodId} {args : Array Value} {below : List Frame} {meth : Method} {cd : Code} {E : eE} {ids : List Nat} {res : Int32 × eM}
set_option maxHeartbeats 4000000 in
set_option maxRecDepth 20000 in
theorem wX11_cloth_38 (C : ea_C p s m args meth cd cX11_cloth 2 (some .int) RX11) (hY : ea_Y ids) {k63 : eM → Option (Int32 × eM)} (hk63 : ∀  (M : eM) (H : Heap) (locs : List Loc) (ls : Array Slot), k63 M = some res → ea_w E ids M s H locs → lv_has ls 2 [(0, .ref (E.1 100))] → W p l e (ea_rm 9 202) s m args below meth cd H locs 0 0 (MQ below (ea_Qi E ids res) args s 0 0 (ea_Ad E ids)) (F0 m 63 ls [])) {k81 : Int32 → eM → Option (Int32 × eM)} (hk81 : ∀ (x1 : Int32) (M : eM) (H : Heap) (locs : List Loc) (ls : Array Slot), k81 x1 M = some res → ea_w E ids M s H locs → lv_has ls 2 [(0, .ref (E.1 100)), (1, .int x1)] → W p l e (ea_rm 9 202) s m args below meth cd H locs 0 0 (MQ below (ea_Qi E ids res) args s 0 0 (ea_Ad E ids)) (F0 m 81 ls [])) : ∀ (n : Nat) (x1 : Int32) (M : eM) (H : Heap) (locs : List Loc) (ls : Array Slot), fX11_cloth_38 k63 k81 n x1 M = some res → ea_w E ids M s H locs → lv_has ls 2 [(0, .ref (E.1 100)), (1, .int x1)] → W p l e (ea_rm 9 202) s m args below meth cd H locs 0 0 (MQ below (ea_Qi E ids res) args s 0 0 (ea_Ad E ids)) (F0 m 38 ls []) := by
  intro n
  induction n with
  | zero => intro x1 M H locs ls hf; cases hf
  | succ n ih =>
    intro x1 M H locs ls hf  hw hl
    replace hf := (fX11_cloth_38.eq_2 ..).symm.trans hf
    refine lv_aload_n C.1 C.2.1 dX11_cloth_38 rfl (lv_at hl 0 rfl) ?_
    refine gf_X11_141 C hw (hY 100 11 rfl) dX11_cloth_39 ?_
    refine lv_iconst (v := 4) C.1 C.2.1 dX11_cloth_42 (by decide) ?_
    refine lv_icmp_eq (tgt := 81) C.1 C.2.1 dX11_cloth_43 (by decide) (fun hc1 => ?_) (fun hc1 => ?_)
    · replace hf := ea_if_t hc1 hf
      exact hk81 _ _ _ _ _ hf hw (lv_sub hl [0, 1] rfl)
    · replace hf := ea_if_f hc1 hf
      refine lv_aload_n C.1 C.2.1 dX11_cloth_46 rfl (lv_at hl 0 rfl) ?_
      obtain ⟨r3, M4, he2, hf⟩ := ea_ci_s hf
      refine ea_runi2 hw (cl_X11_216 C hw (hY 100 11 rfl) (As := []) (rest := []) (mX11_readClause (l := l) (E := E) (ids := ids) hY he2) (by decide) rfl hl.1 rfl (Nat.le_of_ble_eq_true rfl) dX11_cloth_47 ⟨Nat.le_refl _, Nat.le_refl _⟩) (fun H locs hw => ?_)
      refine lv_if_ne (tgt := 55) C.1 C.2.1 dX11_cloth_50 (by decide) (fun hc5 => ?_) (fun hc5 => ?_)
      · replace hf := ea_if_f hc5 hf
        refine lv_aload_n C.1 C.2.1 dX11_cloth_55 rfl (lv_at hl 0 rfl) ?_
        refine gf_X11_141 C hw (hY 100 11 rfl) dX11_cloth_56 ?_
        refine lv_iconst (v := 3) C.1 C.2.1 dX11_cloth_59 (by decide) ?_
        refine lv_icmp_eq (tgt := 71) C.1 C.2.1 dX11_cloth_60 (by decide) (fun hc6 => ?_) (fun hc6 => ?_)
        · replace hf := ea_if_t hc6 hf
          refine lv_aload_n C.1 C.2.1 dX11_cloth_71 rfl (lv_at hl 0 rfl) ?_
          obtain ⟨M8, he7, hf⟩ := ea_cv_s hf
          refine ea_runv hw (cl_X11_179 C hw (hY 100 11 rfl) (As := []) (rest := []) (mX11_scan (l := l) (E := E) (ids := ids) hY he7) (by decide) rfl hl.1 rfl (Nat.le_of_ble_eq_true rfl) dX11_cloth_72 ⟨Nat.le_refl _, Nat.le_refl _⟩) (fun H locs hw => ?_)
          refine lv_iinc (v := x1 + (1 : Int32)) (lv' := [(1, .int (x1 + (1 : Int32))), (0, .ref (E.1 100))]) C.1 C.2.1 dX11_cloth_75 hl (k := 1) rfl rfl (by decide) rfl (fun ls hl => ?_)
          refine lv_goto (tgt := 38) C.1 C.2.1 dX11_cloth_78 (by decide) ?_
          exact ih _ _ _ _ _ hf hw (lv_sub hl [1, 0] rfl)
        · replace hf := ea_if_f hc6 hf
          exact hk63 _ _ _ _ hf hw (lv_sub hl [0] rfl)
      · replace hf := ea_if_t hc5 hf
        refine lv_iconst (v := (-1 : Int32)) C.1 C.2.1 dX11_cloth_53 (by decide) ?_
        exact ea_iret C hw hf dX11_cloth_54
set_option maxHeartbeats 4000000 in
set_option maxRecDepth 20000 in
theorem wX11_cloth_63 (C : ea_C p s m args meth cd cX11_cloth 2 (some .int) RX11) (hY : ea_Y ids) : ∀  (M : eM) (H : Heap) (locs : List Loc) (ls : Array Slot), fX11_cloth_63 M = some res → ea_w E ids M s H locs → lv_has ls 2 [(0, .ref (E.1 100))] → W p l e (ea_rm 9 202) s m args below meth cd H locs 0 0 (MQ below (ea_Qi E ids res) args s 0 0 (ea_Ad E ids)) (F0 m 63 ls []) := by
  intro M H locs ls hf  hw hl
  replace hf := (fX11_cloth_63.eq_1 ..).symm.trans hf
  refine lv_aload_n C.1 C.2.1 dX11_cloth_63 rfl (lv_at hl 0 rfl) ?_
  refine lv_iconst (v := 1) C.1 C.2.1 dX11_cloth_64 (by decide) ?_
  obtain ⟨r2, M3, he1, hf⟩ := ea_ci_s hf
  refine ea_runi2 hw (cl_X11_169 C hw (hY 100 11 rfl) (As := [.int (1 : Int32)]) (rest := []) (mX11_fails (l := l) (E := E) (ids := ids) hY he1) (by decide) rfl hl.1 rfl (Nat.le_of_ble_eq_true rfl) dX11_cloth_65 ⟨Nat.le_refl _, Nat.le_refl _⟩) (fun H locs hw => ?_)
  refine lv_pop C.1 C.2.1 dX11_cloth_68 rfl ?_
  refine lv_iconst (v := (-1 : Int32)) C.1 C.2.1 dX11_cloth_69 (by decide) ?_
  exact ea_iret C hw hf dX11_cloth_70
set_option maxHeartbeats 4000000 in
set_option maxRecDepth 20000 in
theorem wX11_cloth_81 (C : ea_C p s m args meth cd cX11_cloth 2 (some .int) RX11) (hY : ea_Y ids) : ∀ (x1 : Int32) (M : eM) (H : Heap) (locs : List Loc) (ls : Array Slot), fX11_cloth_81 x1 M = some res → ea_w E ids M s H locs → lv_has ls 2 [(0, .ref (E.1 100)), (1, .int x1)] → W p l e (ea_rm 9 202) s m args below meth cd H locs 0 0 (MQ below (ea_Qi E ids res) args s 0 0 (ea_Ad E ids)) (F0 m 81 ls []) := by
  intro x1 M H locs ls hf  hw hl
  replace hf := (fX11_cloth_81.eq_1 ..).symm.trans hf
  refine lv_aload_n C.1 C.2.1 dX11_cloth_81 rfl (lv_at hl 0 rfl) ?_
  obtain ⟨M2, he1, hf⟩ := ea_cv_s hf
  refine ea_runv hw (cl_X11_107 C hw (hY 100 11 rfl) (As := []) (rest := []) (mX11_settle (l := l) (E := E) (ids := ids) hY he1) (by decide) rfl hl.1 rfl (Nat.le_of_ble_eq_true rfl) dX11_cloth_82 ⟨Nat.le_refl _, Nat.le_refl _⟩) (fun H locs hw => ?_)
  refine lv_aload_n C.1 C.2.1 dX11_cloth_85 rfl (lv_at hl 0 rfl) ?_
  refine lv_iload_n C.1 C.2.1 dX11_cloth_86 rfl (lv_at hl 1 rfl) ?_
  refine pu_X11_219 C hw (hY 100 11 rfl) dX11_cloth_87 (fun H locs hw => ?_)
  refine lv_iload_n C.1 C.2.1 dX11_cloth_90 rfl (lv_at hl 1 rfl) ?_
  exact ea_iret C hw hf dX11_cloth_91
set_option maxHeartbeats 4000000 in
set_option maxRecDepth 20000 in
theorem wX11_cloth_0 (C : ea_C p s m args meth cd cX11_cloth 2 (some .int) RX11) (hY : ea_Y ids) : ∀  (M : eM) (H : Heap) (locs : List Loc) (ls : Array Slot), fX11_cloth_0 M = some res → ea_w E ids M s H locs → lv_has ls 2 [(0, .ref (E.1 100))] → W p l e (ea_rm 9 202) s m args below meth cd H locs 0 0 (MQ below (ea_Qi E ids res) args s 0 0 (ea_Ad E ids)) (F0 m 0 ls []) := by
  intro M H locs ls hf  hw hl
  replace hf := (fX11_cloth_0.eq_1 ..).symm.trans hf
  refine lv_aload_n C.1 C.2.1 dX11_cloth_0 rfl (lv_at hl 0 rfl) ?_
  refine lv_aload_n C.1 C.2.1 dX11_cloth_1 rfl (lv_at hl 0 rfl) ?_
  refine gf_X11_110 C hw (hY 100 11 rfl) dX11_cloth_2 ?_
  refine pu_X11_113 C hw (hY 100 11 rfl) dX11_cloth_5 (fun H locs hw => ?_)
  refine lv_aload_n C.1 C.2.1 dX11_cloth_8 rfl (lv_at hl 0 rfl) ?_
  refine lv_iconst (v := 0) C.1 C.2.1 dX11_cloth_9 (by decide) ?_
  refine pu_X11_110 C hw (hY 100 11 rfl) dX11_cloth_10 (fun H locs hw => ?_)
  refine lv_aload_n C.1 C.2.1 dX11_cloth_13 rfl (lv_at hl 0 rfl) ?_
  refine lv_iconst (v := 0) C.1 C.2.1 dX11_cloth_14 (by decide) ?_
  refine pu_X11_132 C hw (hY 100 11 rfl) dX11_cloth_15 (fun H locs hw => ?_)
  refine lv_aload_n C.1 C.2.1 dX11_cloth_18 rfl (lv_at hl 0 rfl) ?_
  obtain ⟨M2, he1, hf⟩ := ea_cv_s hf
  refine ea_runv hw (cl_X11_179 C hw (hY 100 11 rfl) (As := []) (rest := []) (mX11_scan (l := l) (E := E) (ids := ids) hY he1) (by decide) rfl hl.1 rfl (Nat.le_of_ble_eq_true rfl) dX11_cloth_19 ⟨Nat.le_refl _, Nat.le_refl _⟩) (fun H locs hw => ?_)
  refine lv_aload_n C.1 C.2.1 dX11_cloth_22 rfl (lv_at hl 0 rfl) ?_
  refine lv_iconst (v := 0) C.1 C.2.1 dX11_cloth_23 (by decide) ?_
  refine pu_X11_166 C hw (hY 100 11 rfl) dX11_cloth_24 (fun H locs hw => ?_)
  refine lv_aload_n C.1 C.2.1 dX11_cloth_27 rfl (lv_at hl 0 rfl) ?_
  refine lv_iconst (v := (-1 : Int32)) C.1 C.2.1 dX11_cloth_28 (by decide) ?_
  refine pu_X11_13 C hw (hY 100 11 rfl) dX11_cloth_29 (fun H locs hw => ?_)
  refine lv_aload_n C.1 C.2.1 dX11_cloth_32 rfl (lv_at hl 0 rfl) ?_
  obtain ⟨M4, he3, hf⟩ := ea_cv_s hf
  refine ea_runv hw (cl_X11_104 C hw (hY 100 11 rfl) (As := []) (rest := []) (mX11_begin (l := l) (E := E) (ids := ids) hY he3) (by decide) rfl hl.1 rfl (Nat.le_of_ble_eq_true rfl) dX11_cloth_33 ⟨Nat.le_refl _, Nat.le_refl _⟩) (fun H locs hw => ?_)
  refine lv_iconst (v := 0) C.1 C.2.1 dX11_cloth_36 (by decide) ?_
  refine lv_istore_n (lv' := [(1, .int (0 : Int32)), (0, .ref (E.1 100))]) C.1 C.2.1 dX11_cloth_37 rfl hl (by decide) rfl (fun ls hl => ?_)
  exact wX11_cloth_38 C hY (wX11_cloth_63 C hY) (wX11_cloth_81 C hY) ea_N _ _ _ _ _ hf hw (lv_sub hl [1, 0] rfl)
set_option maxHeartbeats 4000000 in
set_option maxRecDepth 20000 in
theorem mX11_cloth {l : Launch} {E : eE} {ids : List Nat} (hY : ea_Y ids) {M : eM} {res : Int32 × eM} (hf : fX11_cloth M = some res) : ea_Mi l yX11_cloth cX11_cloth 2 (some .int) 9 202 E ids [.ref (E.1 100)] M res := by
  refine ea_goi (by decide) (Nat.le_of_ble_eq_true rfl) wc_X11_cloth ?_
  intro p e s m below meth cd ls C hw hl
  exact wX11_cloth_0 C hY  _ _ _ _ hf hw hl
end SX11_cloth
