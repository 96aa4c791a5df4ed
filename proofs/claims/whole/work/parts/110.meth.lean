def fX11_lightBack_137 (k87 : Int32 → Int32 → Int32 → Int32 → Int32 → Int32 → Int32 → eM → Option (Int32 × eM)) (x3 : Int32) (x5 : Int32) (x6 : Int32) (x7 : Int32) (x8 : Int32) (x10 : Int32) (t0 : Int32) (M : eM) : Option (Int32 × eM) := k87 x3 x5 x6 x7 x8 t0 (x10 + (1 : Int32)) M
def fX11_lightBack_87 (k145 : Int32 → Int32 → Int32 → Int32 → Int32 → Int32 → eM → Option (Int32 × eM)) : Nat → Int32 → Int32 → Int32 → Int32 → Int32 → Int32 → Int32 → eM → Option (Int32 × eM)
  | 0, _, _, _, _, _, _, _, _ => none
  | n + 1, x3, x5, x6, x7, x8, x9, x10, M => if (3 : Int32) ≤ x10 then (k145 x3 x5 x6 x7 x8 x9 M) else (if x9 = 0 then (k145 x3 x5 x6 x7 x8 x9 M) else (ea_ci (fX11_colourOf x3 x8 x10 M) (fun r4 M5 => ea_ck (ea_ix ((x6 + (3 : Int32)) + x10) (ea_len 114)) (ea_ci (fX11_plain (r4 - (M5.1 114 ((x6 + (3 : Int32)) + x10).toNatClampNeg)) M5) (fun r8 M9 => if (M9.1 102 (2 : Int32).toNatClampNeg) < r8 then (fX11_lightBack_137 (fX11_lightBack_87 k145 n) x3 x5 x6 x7 x8 x10 (0 : Int32) M9) else (fX11_lightBack_137 (fX11_lightBack_87 k145 n) x3 x5 x6 x7 x8 x10 (1 : Int32) M9))))))
def fX11_lightBack_165 (k73 : Int32 → Int32 → Int32 → Int32 → Int32 → eM → Option (Int32 × eM)) (x3 : Int32) (x5 : Int32) (x6 : Int32) (x7 : Int32) (x8 : Int32) (M : eM) : Option (Int32 × eM) := k73 x3 x5 x6 x7 (x8 + (1 : Int32)) M
def fX11_lightBack_161 (k73 : Int32 → Int32 → Int32 → Int32 → Int32 → eM → Option (Int32 × eM)) (x3 : Int32) (x5 : Int32) (x6 : Int32) (x8 : Int32) (M : eM) : Option (Int32 × eM) := fX11_lightBack_165 k73 x3 x5 x6 x8 x8 M
def fX11_lightBack_145 (k73 : Int32 → Int32 → Int32 → Int32 → Int32 → eM → Option (Int32 × eM)) (x3 : Int32) (x5 : Int32) (x6 : Int32) (x7 : Int32) (x8 : Int32) (x9 : Int32) (M : eM) : Option (Int32 × eM) := if x9 = 0 then (fX11_lightBack_165 k73 x3 x5 x6 x7 x8 M) else (if x5 = 0 then (if x7 = (-1 : Int32) then (fX11_lightBack_161 k73 x3 x5 x6 x8 M) else (fX11_lightBack_165 k73 x3 x5 x6 x7 x8 M)) else (fX11_lightBack_161 k73 x3 x5 x6 x8 M))
def fX11_lightBack_73 : Nat → Int32 → Int32 → Int32 → Int32 → Int32 → eM → Option (Int32 × eM)
  | 0, _, _, _, _, _, _ => none
  | n + 1, x3, x5, x6, x7, x8, M => if (2000 : Int32) ≤ x8 then (some (x7, M)) else (fX11_lightBack_87 (fX11_lightBack_145 (fX11_lightBack_73 n)) ea_N x3 x5 x6 x7 x8 (1 : Int32) (0 : Int32) M)
def fX11_lightBack_0 (x1 : Int32) (x2 : Int32) (x3 : Int32) (x4 : Int32) (x5 : Int32) (M : eM) : Option (Int32 × eM) := ea_ci (fX11_isCell x1 M) (fun r2 M3 => if r2 = 0 then (some ((-2 : Int32), M3)) else (ea_ci (fX11_in x2 (0 : Int32) (1 : Int32) M3) (fun r6 M7 => if r6 = 0 then (some ((-2 : Int32), M7)) else (ea_ci (fX11_isThread x3 M7) (fun r10 M11 => if r10 = 0 then (some ((-2 : Int32), M11)) else (ea_ci (fX11_isStep x4 M11) (fun r14 M15 => if r14 = 0 then (some ((-2 : Int32), M15)) else (ea_ci (fX11_lookAt x1 x2 x4 M15) (fun r18 M19 => if r18 < 0 then (some ((-1 : Int32), M19)) else (ea_ck (ea_ix (r18 + (6 : Int32)) (ea_len 114)) (if (M19.1 114 (r18 + (6 : Int32)).toNatClampNeg) = (1 : Int32) then (some ((-1 : Int32), M19)) else (fX11_lightBack_73 ea_N x3 x5 r18 (-1 : Int32) (0 : Int32) M19))))))))))))
def fX11_lightBack (x1 : Int32) (x2 : Int32) (x3 : Int32) (x4 : Int32) (x5 : Int32) (M : eM) : Option (Int32 × eM) := fX11_lightBack_0 x1 x2 x3 x4 x5 M
section SX11_lightBack
variable {p : Program} {l : Launch} {e : Env} {s : State} {m : MethodId} {args : Array Value} {below : List Frame} {meth : Method} {cd : Code} {E : eE} {ids : List Nat} {res : Int32 × eM}
set_option maxHeartbeats 4000000 in
set_option maxRecDepth 20000 in
theorem wX11_lightBack_137 (C : ea_C p s m args meth cd cX11_lightBack 11 (some .int) RX11) (hY : ea_Y ids) {k87 : Int32 → Int32 → Int32 → Int32 → Int32 → Int32 → Int32 → eM → Option (Int32 × eM)} (hk87 : ∀ (x3 : Int32) (x5 : Int32) (x6 : Int32) (x7 : Int32) (x8 : Int32) (x9 : Int32) (x10 : Int32) (M : eM) (H : Heap) (locs : List Loc) (ls : Array Slot), k87 x3 x5 x6 x7 x8 x9 x10 M = some res → ea_w E ids M s H locs → lv_has ls 11 [(0, .ref (E.1 100)), (3, .int x3), (5, .int x5), (6, .int x6), (7, .int x7), (8, .int x8), (9, .int x9), (10, .int x10)] → W p l e (ea_rm 4 91) s m args below meth cd H locs 0 0 (MQ below (ea_Qi E ids res) args s 0 0 (ea_Ad E ids)) (F0 m 87 ls [])) : ∀ (x3 : Int32) (x5 : Int32) (x6 : Int32) (x7 : Int32) (x8 : Int32) (x10 : Int32) (t0 : Int32) (M : eM) (H : Heap) (locs : List Loc) (ls : Array Slot), fX11_lightBack_137 k87 x3 x5 x6 x7 x8 x10 t0 M = some res → ea_w E ids M s H locs → lv_has ls 11 [(0, .ref (E.1 100)), (3, .int x3), (5, .int x5), (6, .int x6), (7, .int x7), (8, .int x8), (10, .int x10)] → W p l e (ea_rm 4 91) s m args below meth cd H locs 0 0 (MQ below (ea_Qi E ids res) args s 0 0 (ea_Ad E ids)) (F0 m 137 ls [.int t0]) := by
  intro x3 x5 x6 x7 x8 x10 t0 M H locs ls hf  hw hl
  replace hf := (fX11_lightBack_137.eq_1 ..).symm.trans hf
  refine lv_istore (lv' := [(9, .int t0), (0, .ref (E.1 100)), (3, .int x3), (5, .int x5), (6, .int x6), (7, .int x7), (8, .int x8), (10, .int x10)]) C.1 C.2.1 dX11_lightBack_137 hl (by decide) rfl (fun ls hl => ?_)
  refine lv_iinc (v := x10 + (1 : Int32)) (lv' := [(10, .int (x10 + (1 : Int32))), (9, .int t0), (0, .ref (E.1 100)), (3, .int x3), (5, .int x5), (6, .int x6), (7, .int x7), (8, .int x8)]) C.1 C.2.1 dX11_lightBack_139 hl (k := 7) rfl rfl (by decide) rfl (fun ls hl => ?_)
  refine lv_goto (tgt := 87) C.1 C.2.1 dX11_lightBack_142 (by decide) ?_
  exact hk87 _ _ _ _ _ _ _ _ _ _ _ hf hw (lv_sub hl [2, 3, 4, 5, 6, 7, 1, 0] rfl)
set_option maxHeartbeats 4000000 in
set_option maxRecDepth 20000 in
theorem wX11_lightBack_87 (C : ea_C p s m args meth cd cX11_lightBack 11 (some .int) RX11) (hY : ea_Y ids) {k145 : Int32 → Int32 → Int32 → Int32 → Int32 → Int32 → eM → Option (Int32 × eM)} (hk145 : ∀ (x3 : Int32) (x5 : Int32) (x6 : Int32) (x7 : Int32) (x8 : Int32) (x9 : Int32) (M : eM) (H : Heap) (locs : List Loc) (ls : Array Slot), k145 x3 x5 x6 x7 x8 x9 M = some res → ea_w E ids M s H locs → lv_has ls 11 [(0, .ref (E.1 100)), (3, .int x3), (5, .int x5), (6, .int x6), (7, .int x7), (8, .int x8), (9, .int x9)] → W p l e (ea_rm 4 91) s m args below meth cd H locs 0 0 (MQ below (ea_Qi E ids res) args s 0 0 (ea_Ad E ids)) (F0 m 145 ls [])) : ∀ (n : Nat) (x3 : Int32) (x5 : Int32) (x6 : Int32) (x7 : Int32) (x8 : Int32) (x9 : Int32) (x10 : Int32) (M : eM) (H : Heap) (locs : List Loc) (ls : Array Slot), fX11_lightBack_87 k145 n x3 x5 x6 x7 x8 x9 x10 M = some res → ea_w E ids M s H locs → lv_has ls 11 [(0, .ref (E.1 100)), (3, .int x3), (5, .int x5), (6, .int x6), (7, .int x7), (8, .int x8), (9, .int x9), (10, .int x10)] → W p l e (ea_rm 4 91) s m args below meth cd H locs 0 0 (MQ below (ea_Qi E ids res) args s 0 0 (ea_Ad E ids)) (F0 m 87 ls []) := by
  intro n
  induction n with
  | zero => intro x3 x5 x6 x7 x8 x9 x10 M H locs ls hf; cases hf
  | succ n ih =>
    intro x3 x5 x6 x7 x8 x9 x10 M H locs ls hf  hw hl
    replace hf := (fX11_lightBack_87.eq_2 ..).symm.trans hf
    refine lv_iload C.1 C.2.1 dX11_lightBack_87 (lv_at hl 7 rfl) ?_
    refine lv_iconst (v := 3) C.1 C.2.1 dX11_lightBack_89 (by decide) ?_
    refine lv_icmp_ge (tgt := 145) C.1 C.2.1 dX11_lightBack_90 (by decide) (fun hc1 => ?_) (fun hc1 => ?_)
    · replace hf := ea_if_t hc1 hf
      exact hk145 _ _ _ _ _ _ _ _ _ _ hf hw (lv_sub hl [0, 1, 2, 3, 4, 5, 6] rfl)
    · replace hf := ea_if_f hc1 hf
      refine lv_iload C.1 C.2.1 dX11_lightBack_93 (lv_at hl 6 rfl) ?_
      refine lv_if_eq (tgt := 145) C.1 C.2.1 dX11_lightBack_95 (by decide) (fun hc2 => ?_) (fun hc2 => ?_)
      · replace hf := ea_if_t hc2 hf
        exact hk145 _ _ _ _ _ _ _ _ _ _ hf hw (lv_sub hl [0, 1, 2, 3, 4, 5, 6] rfl)
      · replace hf := ea_if_f hc2 hf
        refine lv_aload_n C.1 C.2.1 dX11_lightBack_98 rfl (lv_at hl 0 rfl) ?_
        refine lv_iload_n C.1 C.2.1 dX11_lightBack_99 rfl (lv_at hl 1 rfl) ?_
        refine lv_iload C.1 C.2.1 dX11_lightBack_100 (lv_at hl 5 rfl) ?_
        refine lv_iload C.1 C.2.1 dX11_lightBack_102 (lv_at hl 7 rfl) ?_
        obtain ⟨r4, M5, he3, hf⟩ := ea_ci_s hf
        refine ea_runi2 hw (cl_X11_257 C hw (hY 100 11 rfl) (As := [.int x3, .int x8, .int x10]) (rest := []) (mX11_colourOf (l := l) (E := E) (ids := ids) hY he3) (by decide) rfl hl.1 rfl (Nat.le_of_ble_eq_true rfl) dX11_lightBack_104 ⟨Nat.le_refl _, Nat.le_refl _⟩) (fun H locs hw => ?_)
        refine lv_aload_n C.1 C.2.1 dX11_lightBack_107 rfl (lv_at hl 0 rfl) ?_
        refine gf_X11_55 C hw (hY 100 11 rfl) dX11_lightBack_108 ?_
        refine W.eq (g2 := F0 m 111 ls [.ref (E.1 114), .int r4]) rfl ?_
        refine lv_iload C.1 C.2.1 dX11_lightBack_111 (lv_at hl 3 rfl) ?_
        refine lv_iconst (v := 3) C.1 C.2.1 dX11_lightBack_113 (by decide) ?_
        refine lv_iadd C.1 C.2.1 dX11_lightBack_114 ?_
        refine lv_iload C.1 C.2.1 dX11_lightBack_115 (lv_at hl 7 rfl) ?_
        refine lv_iadd C.1 C.2.1 dX11_lightBack_117 ?_
        obtain ⟨hc6, hf⟩ := ea_ck_s hf
        refine ea_iald C hw (show ea_ok ids 114 20 from ok_11_27 (hY 100 11 rfl)) hc6 dX11_lightBack_118 ?_
        refine lv_isub C.1 C.2.1 dX11_lightBack_119 ?_
        obtain ⟨r8, M9, he7, hf⟩ := ea_ci_s hf
        refine ea_runi2 hw (cl_X11_290 C hw (As := [.int (r4 - (M5.1 114 ((x6 + (3 : Int32)) + x10).toNatClampNeg))]) (rest := []) (mX11_plain (l := l) (E := E) (ids := ids) hY he7) (by decide) rfl hl.1 rfl (Nat.le_of_ble_eq_true rfl) dX11_lightBack_120 ⟨Nat.le_refl _, Nat.le_refl _⟩) (fun H locs hw => ?_)
        refine lv_aload_n C.1 C.2.1 dX11_lightBack_123 rfl (lv_at hl 0 rfl) ?_
        refine gf_X11_17 C hw (hY 100 11 rfl) dX11_lightBack_124 ?_
        refine W.eq (g2 := F0 m 127 ls [.ref (E.1 102), .int r8]) rfl ?_
        refine lv_iconst (v := 2) C.1 C.2.1 dX11_lightBack_127 (by decide) ?_
        refine ea_iald C hw (show ea_ok ids 102 20 from ok_11_12 (hY 100 11 rfl)) (by decide) dX11_lightBack_128 ?_
        refine lv_icmp_gt (tgt := 136) C.1 C.2.1 dX11_lightBack_129 (by decide) (fun hc10 => ?_) (fun hc10 => ?_)
        · replace hf := ea_if_t hc10 hf
          refine lv_iconst (v := 0) C.1 C.2.1 dX11_lightBack_136 (by decide) ?_
          exact wX11_lightBack_137 C hY ih _ _ _ _ _ _ _ _ _ _ _ hf hw (lv_sub hl [0, 1, 2, 3, 4, 5, 7] rfl)
        · replace hf := ea_if_f hc10 hf
          refine lv_iconst (v := 1) C.1 C.2.1 dX11_lightBack_132 (by decide) ?_
          refine lv_goto (tgt := 137) C.1 C.2.1 dX11_lightBack_133 (by decide) ?_
          exact wX11_lightBack_137 C hY ih _ _ _ _ _ _ _ _ _ _ _ hf hw (lv_sub hl [0, 1, 2, 3, 4, 5, 7] rfl)
set_option maxHeartbeats 4000000 in
set_option maxRecDepth 20000 in
theorem wX11_lightBack_165 (C : ea_C p s m args meth cd cX11_lightBack 11 (some .int) RX11) (hY : ea_Y ids) {k73 : Int32 → Int32 → Int32 → Int32 → Int32 → eM → Option (Int32 × eM)} (hk73 : ∀ (x3 : Int32) (x5 : Int32) (x6 : Int32) (x7 : Int32) (x8 : Int32) (M : eM) (H : Heap) (locs : List Loc) (ls : Array Slot), k73 x3 x5 x6 x7 x8 M = some res → ea_w E ids M s H locs → lv_has ls 11 [(0, .ref (E.1 100)), (3, .int x3), (5, .int x5), (6, .int x6), (7, .int x7), (8, .int x8)] → W p l e (ea_rm 4 91) s m args below meth cd H locs 0 0 (MQ below (ea_Qi E ids res) args s 0 0 (ea_Ad E ids)) (F0 m 73 ls [])) : ∀ (x3 : Int32) (x5 : Int32) (x6 : Int32) (x7 : Int32) (x8 : Int32) (M : eM) (H : Heap) (locs : List Loc) (ls : Array Slot), fX11_lightBack_165 k73 x3 x5 x6 x7 x8 M = some res → ea_w E ids M s H locs → lv_has ls 11 [(0, .ref (E.1 100)), (3, .int x3), (5, .int x5), (6, .int x6), (7, .int x7), (8, .int x8)] → W p l e (ea_rm 4 91) s m args below meth cd H locs 0 0 (MQ below (ea_Qi E ids res) args s 0 0 (ea_Ad E ids)) (F0 m 165 ls []) := by
  intro x3 x5 x6 x7 x8 M H locs ls hf  hw hl
  replace hf := (fX11_lightBack_165.eq_1 ..).symm.trans hf
  refine lv_iinc (v := x8 + (1 : Int32)) (lv' := [(8, .int (x8 + (1 : Int32))), (0, .ref (E.1 100)), (3, .int x3), (5, .int x5), (6, .int x6), (7, .int x7)]) C.1 C.2.1 dX11_lightBack_165 hl (k := 5) rfl rfl (by decide) rfl (fun ls hl => ?_)
  refine lv_goto (tgt := 73) C.1 C.2.1 dX11_lightBack_168 (by decide) ?_
  exact hk73 _ _ _ _ _ _ _ _ _ hf hw (lv_sub hl [1, 2, 3, 4, 5, 0] rfl)
set_option maxHeartbeats 4000000 in
set_option maxRecDepth 20000 in
theorem wX11_lightBack_161 (C : ea_C p s m args meth cd cX11_lightBack 11 (some .int) RX11) (hY : ea_Y ids) {k73 : Int32 → Int32 → Int32 → Int32 → Int32 → eM → Option (Int32 × eM)} (hk73 : ∀ (x3 : Int32) (x5 : Int32) (x6 : Int32) (x7 : Int32) (x8 : Int32) (M : eM) (H : Heap) (locs : List Loc) (ls : Array Slot), k73 x3 x5 x6 x7 x8 M = some res → ea_w E ids M s H locs → lv_has ls 11 [(0, .ref (E.1 100)), (3, .int x3), (5, .int x5), (6, .int x6), (7, .int x7), (8, .int x8)] → W p l e (ea_rm 4 91) s m args below meth cd H locs 0 0 (MQ below (ea_Qi E ids res) args s 0 0 (ea_Ad E ids)) (F0 m 73 ls [])) : ∀ (x3 : Int32) (x5 : Int32) (x6 : Int32) (x8 : Int32) (M : eM) (H : Heap) (locs : List Loc) (ls : Array Slot), fX11_lightBack_161 k73 x3 x5 x6 x8 M = some res → ea_w E ids M s H locs → lv_has ls 11 [(0, .ref (E.1 100)), (3, .int x3), (5, .int x5), (6, .int x6), (8, .int x8)] → W p l e (ea_rm 4 91) s m args below meth cd H locs 0 0 (MQ below (ea_Qi E ids res) args s 0 0 (ea_Ad E ids)) (F0 m 161 ls []) := by
  intro x3 x5 x6 x8 M H locs ls hf  hw hl
  replace hf := (fX11_lightBack_161.eq_1 ..).symm.trans hf
  refine lv_iload C.1 C.2.1 dX11_lightBack_161 (lv_at hl 4 rfl) ?_
  refine lv_istore (lv' := [(7, .int x8), (0, .ref (E.1 100)), (3, .int x3), (5, .int x5), (6, .int x6), (8, .int x8)]) C.1 C.2.1 dX11_lightBack_163 hl (by decide) rfl (fun ls hl => ?_)
  exact wX11_lightBack_165 C hY hk73 _ _ _ _ _ _ _ _ _ hf hw (lv_sub hl [1, 2, 3, 4, 0, 5] rfl)
set_option maxHeartbeats 4000000 in
set_option maxRecDepth 20000 in
theorem wX11_lightBack_145 (C : ea_C p s m args meth cd cX11_lightBack 11 (some .int) RX11) (hY : ea_Y ids) {k73 : Int32 → Int32 → Int32 → Int32 → Int32 → eM → Option (Int32 × eM)} (hk73 : ∀ (x3 : Int32) (x5 : Int32) (x6 : Int32) (x7 : Int32) (x8 : Int32) (M : eM) (H : Heap) (locs : List Loc) (ls : Array Slot), k73 x3 x5 x6 x7 x8 M = some res → ea_w E ids M s H locs → lv_has ls 11 [(0, .ref (E.1 100)), (3, .int x3), (5, .int x5), (6, .int x6), (7, .int x7), (8, .int x8)] → W p l e (ea_rm 4 91) s m args below meth cd H locs 0 0 (MQ below (ea_Qi E ids res) args s 0 0 (ea_Ad E ids)) (F0 m 73 ls [])) : ∀ (x3 : Int32) (x5 : Int32) (x6 : Int32) (x7 : Int32) (x8 : Int32) (x9 : Int32) (M : eM) (H : Heap) (locs : List Loc) (ls : Array Slot), fX11_lightBack_145 k73 x3 x5 x6 x7 x8 x9 M = some res → ea_w E ids M s H locs → lv_has ls 11 [(0, .ref (E.1 100)), (3, .int x3), (5, .int x5), (6, .int x6), (7, .int x7), (8, .int x8), (9, .int x9)] → W p l e (ea_rm 4 91) s m args below meth cd H locs 0 0 (MQ below (ea_Qi E ids res) args s 0 0 (ea_Ad E ids)) (F0 m 145 ls []) := by
  intro x3 x5 x6 x7 x8 x9 M H locs ls hf  hw hl
  replace hf := (fX11_lightBack_145.eq_1 ..).symm.trans hf
  refine lv_iload C.1 C.2.1 dX11_lightBack_145 (lv_at hl 6 rfl) ?_
  refine lv_if_eq (tgt := 165) C.1 C.2.1 dX11_lightBack_147 (by decide) (fun hc1 => ?_) (fun hc1 => ?_)
  · replace hf := ea_if_t hc1 hf
    exact wX11_lightBack_165 C hY hk73 _ _ _ _ _ _ _ _ _ hf hw (lv_sub hl [0, 1, 2, 3, 4, 5] rfl)
  · replace hf := ea_if_f hc1 hf
    refine lv_iload C.1 C.2.1 dX11_lightBack_150 (lv_at hl 2 rfl) ?_
    refine lv_if_ne (tgt := 161) C.1 C.2.1 dX11_lightBack_152 (by decide) (fun hc2 => ?_) (fun hc2 => ?_)
    · replace hf := ea_if_f hc2 hf
      exact wX11_lightBack_161 C hY hk73 _ _ _ _ _ _ _ _ hf hw (lv_sub hl [0, 1, 2, 3, 5] rfl)
    · replace hf := ea_if_t hc2 hf
      refine lv_iload C.1 C.2.1 dX11_lightBack_155 (lv_at hl 4 rfl) ?_
      refine lv_iconst (v := (-1 : Int32)) C.1 C.2.1 dX11_lightBack_157 (by decide) ?_
      refine lv_icmp_ne (tgt := 165) C.1 C.2.1 dX11_lightBack_158 (by decide) (fun hc3 => ?_) (fun hc3 => ?_)
      · replace hf := ea_if_f hc3 hf
        exact wX11_lightBack_165 C hY hk73 _ _ _ _ _ _ _ _ _ hf hw (lv_sub hl [0, 1, 2, 3, 4, 5] rfl)
      · replace hf := ea_if_t hc3 hf
        exact wX11_lightBack_161 C hY hk73 _ _ _ _ _ _ _ _ hf hw (lv_sub hl [0, 1, 2, 3, 5] rfl)
set_option maxHeartbeats 4000000 in
set_option maxRecDepth 20000 in
theorem wX11_lightBack_73 (C : ea_C p s m args meth cd cX11_lightBack 11 (some .int) RX11) (hY : ea_Y ids) : ∀ (n : Nat) (x3 : Int32) (x5 : Int32) (x6 : Int32) (x7 : Int32) (x8 : Int32) (M : eM) (H : Heap) (locs : List Loc) (ls : Array Slot), fX11_lightBack_73 n x3 x5 x6 x7 x8 M = some res → ea_w E ids M s H locs → lv_has ls 11 [(0, .ref (E.1 100)), (3, .int x3), (5, .int x5), (6, .int x6), (7, .int x7), (8, .int x8)] → W p l e (ea_rm 4 91) s m args below meth cd H locs 0 0 (MQ below (ea_Qi E ids res) args s 0 0 (ea_Ad E ids)) (F0 m 73 ls []) := by
  intro n
  induction n with
  | zero => intro x3 x5 x6 x7 x8 M H locs ls hf; cases hf
  | succ n ih =>
    intro x3 x5 x6 x7 x8 M H locs ls hf  hw hl
    replace hf := (fX11_lightBack_73.eq_2 ..).symm.trans hf
    refine lv_iload C.1 C.2.1 dX11_lightBack_73 (lv_at hl 5 rfl) ?_
    refine lv_sipush (v := 2000) C.1 C.2.1 dX11_lightBack_75 (by decide) ?_
    refine lv_icmp_ge (tgt := 171) C.1 C.2.1 dX11_lightBack_78 (by decide) (fun hc1 => ?_) (fun hc1 => ?_)
    · replace hf := ea_if_t hc1 hf
      refine lv_iload C.1 C.2.1 dX11_lightBack_171 (lv_at hl 4 rfl) ?_
      exact ea_iret C hw hf dX11_lightBack_173
    · replace hf := ea_if_f hc1 hf
      refine lv_iconst (v := 1) C.1 C.2.1 dX11_lightBack_81 (by decide) ?_
      refine lv_istore (lv' := [(9, .int (1 : Int32)), (0, .ref (E.1 100)), (3, .int x3), (5, .int x5), (6, .int x6), (7, .int x7), (8, .int x8)]) C.1 C.2.1 dX11_lightBack_82 hl (by decide) rfl (fun ls hl => ?_)
      refine lv_iconst (v := 0) C.1 C.2.1 dX11_lightBack_84 (by decide) ?_
      refine lv_istore (lv' := [(10, .int (0 : Int32)), (9, .int (1 : Int32)), (0, .ref (E.1 100)), (3, .int x3), (5, .int x5), (6, .int x6), (7, .int x7), (8, .int x8)]) C.1 C.2.1 dX11_lightBack_85 hl (by decide) rfl (fun ls hl => ?_)
      exact wX11_lightBack_87 C hY (wX11_lightBack_145 C hY ih) ea_N _ _ _ _ _ _ _ _ _ _ _ hf hw (lv_sub hl [2, 3, 4, 5, 6, 7, 1, 0] rfl)
set_option maxHeartbeats 4000000 in
set_option maxRecDepth 20000 in
theorem wX11_lightBack_0 (C : ea_C p s m args meth cd cX11_lightBack 11 (some .int) RX11) (hY : ea_Y ids) : ∀ (x1 : Int32) (x2 : Int32) (x3 : Int32) (x4 : Int32) (x5 : Int32) (M : eM) (H : Heap) (locs : List Loc) (ls : Array Slot), fX11_lightBack_0 x1 x2 x3 x4 x5 M = some res → ea_w E ids M s H locs → lv_has ls 11 [(0, .ref (E.1 100)), (1, .int x1), (2, .int x2), (3, .int x3), (4, .int x4), (5, .int x5)] → W p l e (ea_rm 4 91) s m args below meth cd H locs 0 0 (MQ below (ea_Qi E ids res) args s 0 0 (ea_Ad E ids)) (F0 m 0 ls []) := by
  intro x1 x2 x3 x4 x5 M H locs ls hf  hw hl
  replace hf := (fX11_lightBack_0.eq_1 ..).symm.trans hf
  refine lv_aload_n C.1 C.2.1 dX11_lightBack_0 rfl (lv_at hl 0 rfl) ?_
  refine lv_iload_n C.1 C.2.1 dX11_lightBack_1 rfl (lv_at hl 1 rfl) ?_
  obtain ⟨r2, M3, he1, hf⟩ := ea_ci_s hf
  refine ea_runi2 hw (cl_X11_264 C hw (hY 100 11 rfl) (As := [.int x1]) (rest := []) (mX11_isCell (l := l) (E := E) (ids := ids) hY he1) (by decide) rfl hl.1 rfl (Nat.le_of_ble_eq_true rfl) dX11_lightBack_2 ⟨Nat.le_refl _, Nat.le_refl _⟩) (fun H locs hw => ?_)
  refine lv_if_eq (tgt := 33) C.1 C.2.1 dX11_lightBack_5 (by decide) (fun hc4 => ?_) (fun hc4 => ?_)
  · replace hf := ea_if_t hc4 hf
    refine lv_bipush (v := (-2 : Int32)) C.1 C.2.1 dX11_lightBack_33 (by decide) ?_
    exact ea_iret C hw hf dX11_lightBack_35
  · replace hf := ea_if_f hc4 hf
    refine lv_iload_n C.1 C.2.1 dX11_lightBack_8 rfl (lv_at hl 2 rfl) ?_
    refine lv_iconst (v := 0) C.1 C.2.1 dX11_lightBack_9 (by decide) ?_
    refine lv_iconst (v := 1) C.1 C.2.1 dX11_lightBack_10 (by decide) ?_
    obtain ⟨r6, M7, he5, hf⟩ := ea_ci_s hf
    refine ea_runi2 hw (cl_X11_172 C hw (As := [.int x2, .int (0 : Int32), .int (1 : Int32)]) (rest := []) (mX11_in (l := l) (E := E) (ids := ids) hY he5) (by decide) rfl hl.1 rfl (Nat.le_of_ble_eq_true rfl) dX11_lightBack_11 ⟨Nat.le_refl _, Nat.le_refl _⟩) (fun H locs hw => ?_)
    refine lv_if_eq (tgt := 33) C.1 C.2.1 dX11_lightBack_14 (by decide) (fun hc8 => ?_) (fun hc8 => ?_)
    · replace hf := ea_if_t hc8 hf
      refine lv_bipush (v := (-2 : Int32)) C.1 C.2.1 dX11_lightBack_33 (by decide) ?_
      exact ea_iret C hw hf dX11_lightBack_35
    · replace hf := ea_if_f hc8 hf
      refine lv_aload_n C.1 C.2.1 dX11_lightBack_17 rfl (lv_at hl 0 rfl) ?_
      refine lv_iload_n C.1 C.2.1 dX11_lightBack_18 rfl (lv_at hl 3 rfl) ?_
      obtain ⟨r10, M11, he9, hf⟩ := ea_ci_s hf
      refine ea_runi2 hw (cl_X11_251 C hw (hY 100 11 rfl) (As := [.int x3]) (rest := []) (mX11_isThread (l := l) (E := E) (ids := ids) hY he9) (by decide) rfl hl.1 rfl (Nat.le_of_ble_eq_true rfl) dX11_lightBack_19 ⟨Nat.le_refl _, Nat.le_refl _⟩) (fun H locs hw => ?_)
      refine lv_if_eq (tgt := 33) C.1 C.2.1 dX11_lightBack_22 (by decide) (fun hc12 => ?_) (fun hc12 => ?_)
      · replace hf := ea_if_t hc12 hf
        refine lv_bipush (v := (-2 : Int32)) C.1 C.2.1 dX11_lightBack_33 (by decide) ?_
        exact ea_iret C hw hf dX11_lightBack_35
      · replace hf := ea_if_f hc12 hf
        refine lv_iload C.1 C.2.1 dX11_lightBack_25 (lv_at hl 4 rfl) ?_
        obtain ⟨r14, M15, he13, hf⟩ := ea_ci_s hf
        refine ea_runi2 hw (cl_X11_274 C hw (As := [.int x4]) (rest := []) (mX11_isStep (l := l) (E := E) (ids := ids) hY he13) (by decide) rfl hl.1 rfl (Nat.le_of_ble_eq_true rfl) dX11_lightBack_27 ⟨Nat.le_refl _, Nat.le_refl _⟩) (fun H locs hw => ?_)
        refine lv_if_ne (tgt := 36) C.1 C.2.1 dX11_lightBack_30 (by decide) (fun hc16 => ?_) (fun hc16 => ?_)
        · replace hf := ea_if_f hc16 hf
          refine lv_aload_n C.1 C.2.1 dX11_lightBack_36 rfl (lv_at hl 0 rfl) ?_
          refine lv_iload_n C.1 C.2.1 dX11_lightBack_37 rfl (lv_at hl 1 rfl) ?_
          refine lv_iload_n C.1 C.2.1 dX11_lightBack_38 rfl (lv_at hl 2 rfl) ?_
          refine lv_iload C.1 C.2.1 dX11_lightBack_39 (lv_at hl 4 rfl) ?_
          obtain ⟨r18, M19, he17, hf⟩ := ea_ci_s hf
          refine ea_runi2 hw (cl_X11_277 C hw (hY 100 11 rfl) (As := [.int x1, .int x2, .int x4]) (rest := []) (mX11_lookAt (l := l) (E := E) (ids := ids) hY he17) (by decide) rfl hl.1 rfl (Nat.le_of_ble_eq_true rfl) dX11_lightBack_41 ⟨Nat.le_refl _, Nat.le_refl _⟩) (fun H locs hw => ?_)
          refine lv_istore (lv' := [(6, .int r18), (0, .ref (E.1 100)), (1, .int x1), (2, .int x2), (3, .int x3), (4, .int x4), (5, .int x5)]) C.1 C.2.1 dX11_lightBack_44 hl (by decide) rfl (fun ls hl => ?_)
          refine lv_iload C.1 C.2.1 dX11_lightBack_46 (lv_at hl 0 rfl) ?_
          refine lv_if_lt (tgt := 65) C.1 C.2.1 dX11_lightBack_48 (by decide) (fun hc20 => ?_) (fun hc20 => ?_)
          · replace hf := ea_if_t hc20 hf
            refine lv_iconst (v := (-1 : Int32)) C.1 C.2.1 dX11_lightBack_65 (by decide) ?_
            exact ea_iret C hw hf dX11_lightBack_66
          · replace hf := ea_if_f hc20 hf
            refine lv_aload_n C.1 C.2.1 dX11_lightBack_51 rfl (lv_at hl 1 rfl) ?_
            refine gf_X11_55 C hw (hY 100 11 rfl) dX11_lightBack_52 ?_
            refine W.eq (g2 := F0 m 55 ls [.ref (E.1 114)]) rfl ?_
            refine lv_iload C.1 C.2.1 dX11_lightBack_55 (lv_at hl 0 rfl) ?_
            refine lv_bipush (v := 6) C.1 C.2.1 dX11_lightBack_57 (by decide) ?_
            refine lv_iadd C.1 C.2.1 dX11_lightBack_59 ?_
            obtain ⟨hc21, hf⟩ := ea_ck_s hf
            refine ea_iald C hw (show ea_ok ids 114 20 from ok_11_27 (hY 100 11 rfl)) hc21 dX11_lightBack_60 ?_
            refine lv_iconst (v := 1) C.1 C.2.1 dX11_lightBack_61 (by decide) ?_
            refine lv_icmp_ne (tgt := 67) C.1 C.2.1 dX11_lightBack_62 (by decide) (fun hc22 => ?_) (fun hc22 => ?_)
            · replace hf := ea_if_f hc22 hf
              refine lv_iconst (v := (-1 : Int32)) C.1 C.2.1 dX11_lightBack_67 (by decide) ?_
              refine lv_istore (lv' := [(7, .int (-1 : Int32)), (6, .int r18), (0, .ref (E.1 100)), (1, .int x1), (2, .int x2), (3, .int x3), (4, .int x4), (5, .int x5)]) C.1 C.2.1 dX11_lightBack_68 hl (by decide) rfl (fun ls hl => ?_)
              refine lv_iconst (v := 0) C.1 C.2.1 dX11_lightBack_70 (by decide) ?_
              refine lv_istore (lv' := [(8, .int (0 : Int32)), (7, .int (-1 : Int32)), (6, .int r18), (0, .ref (E.1 100)), (1, .int x1), (2, .int x2), (3, .int x3), (4, .int x4), (5, .int x5)]) C.1 C.2.1 dX11_lightBack_71 hl (by decide) rfl (fun ls hl => ?_)
              exact wX11_lightBack_73 C hY ea_N _ _ _ _ _ _ _ _ _ hf hw (lv_sub hl [3, 6, 8, 2, 1, 0] rfl)
            · replace hf := ea_if_t hc22 hf
              refine lv_iconst (v := (-1 : Int32)) C.1 C.2.1 dX11_lightBack_65 (by decide) ?_
              exact ea_iret C hw hf dX11_lightBack_66
        · replace hf := ea_if_t hc16 hf
          refine lv_bipush (v := (-2 : Int32)) C.1 C.2.1 dX11_lightBack_33 (by decide) ?_
          exact ea_iret C hw hf dX11_lightBack_35
set_option maxHeartbeats 4000000 in
set_option maxRecDepth 20000 in
theorem mX11_lightBack {l : Launch} {E : eE} {ids : List Nat} (hY : ea_Y ids) {x1 : Int32} {x2 : Int32} {x3 : Int32} {x4 : Int32} {x5 : Int32} {M : eM} {res : Int32 × eM} (hf : fX11_lightBack x1 x2 x3 x4 x5 M = some res) : ea_Mi l yX11_lightBack cX11_lightBack 11 (some .int) 4 91 E ids [.ref (E.1 100), .int x1, .int x2, .int x3, .int x4, .int x5] M res := by
  refine ea_goi (by decide) (Nat.le_of_ble_eq_true rfl) wc_X11_lightBack ?_
  intro p e s m below meth cd ls C hw hl
  exact wX11_lightBack_0 C hY _ _ _ _ _ _ _ _ _ hf hw hl
end SX11_lightBack

def fX11_look_0 (x1 : Int32) (x2 : Int32) (x3 : Int32) (x4 : Int32) (x5 : Int32) (x6 : Int32) (M : eM) : Option (Int32 × eM) := ea_ci (fX11_isTelling x1 M) (fun r2 M3 => if r2 = 0 then (some ((-2 : Int32), M3)) else (ea_ci (fX11_isCell x2 M3) (fun r6 M7 => if r6 = 0 then (some ((-2 : Int32), M7)) else (ea_ci (fX11_in x3 (0 : Int32) (1 : Int32) M7) (fun r10 M11 => if r10 = 0 then (some ((-2 : Int32), M11)) else (ea_ci (fX11_areColours x4 x5 x6 M11) (fun r14 M15 => if r14 = 0 then (some ((-2 : Int32), M15)) else (ea_ci (fX11_addLook x1 x2 x3 x4 x5 x6 (0 : Int32) M15) (fun r18 M19 => some (r18, M19))))))))))
def fX11_look (x1 : Int32) (x2 : Int32) (x3 : Int32) (x4 : Int32) (x5 : Int32) (x6 : Int32) (M : eM) : Option (Int32 × eM) := fX11_look_0 x1 x2 x3 x4 x5 x6 M
section SX11_look
variable {p : Program} {l : Launch} {e : Env} {s : State} {m : MethodId} {args : Array Value} {below : List Frame} {meth : Method} {cd : Code} {E : eE} {ids : List Nat} {res : Int32 × eM}
set_option maxHeartbeats 4000000 in
set_option maxRecDepth 20000 in
theorem wX11_look_0 (C : ea_C p s m args meth cd cX11_look 7 (some .int) RX11) (hY : ea_Y ids) : ∀ (x1 : Int32) (x2 : Int32) (x3 : Int32) (x4 : Int32) (x5 : Int32) (x6 : Int32) (M : eM) (H : Heap) (locs : List Loc) (ls : Array Slot), fX11_look_0 x1 x2 x3 x4 x5 x6 M = some res → ea_w E ids M s H locs → lv_has ls 7 [(0, .ref (E.1 100)), (1, .int x1), (2, .int x2), (3, .int x3), (4, .int x4), (5, .int x5), (6, .int x6)] → W p l e (ea_rm 2 44) s m args below meth cd H locs 0 0 (MQ below (ea_Qi E ids res) args s 0 0 (ea_Ad E ids)) (F0 m 0 ls []) := by
  intro x1 x2 x3 x4 x5 x6 M H locs ls hf  hw hl
  replace hf := (fX11_look_0.eq_1 ..).symm.trans hf
  refine lv_aload_n C.1 C.2.1 dX11_look_0 rfl (lv_at hl 0 rfl) ?_
  refine lv_iload_n C.1 C.2.1 dX11_look_1 rfl (lv_at hl 1 rfl) ?_
  obtain ⟨r2, M3, he1, hf⟩ := ea_ci_s hf
  refine ea_runi2 hw (cl_X11_261 C hw (hY 100 11 rfl) (As := [.int x1]) (rest := []) (mX11_isTelling (l := l) (E := E) (ids := ids) hY he1) (by decide) rfl hl.1 rfl (Nat.le_of_ble_eq_true rfl) dX11_look_2 ⟨Nat.le_refl _, Nat.le_refl _⟩) (fun H locs hw => ?_)
  refine lv_if_eq (tgt := 54) C.1 C.2.1 dX11_look_5 (by decide) (fun hc4 => ?_) (fun hc4 => ?_)
  · replace hf := ea_if_t hc4 hf
    refine lv_bipush (v := (-2 : Int32)) C.1 C.2.1 dX11_look_54 (by decide) ?_
    exact ea_iret C hw hf dX11_look_56
  · replace hf := ea_if_f hc4 hf
    refine lv_aload_n C.1 C.2.1 dX11_look_8 rfl (lv_at hl 0 rfl) ?_
    refine lv_iload_n C.1 C.2.1 dX11_look_9 rfl (lv_at hl 2 rfl) ?_
    obtain ⟨r6, M7, he5, hf⟩ := ea_ci_s hf
    refine ea_runi2 hw (cl_X11_264 C hw (hY 100 11 rfl) (As := [.int x2]) (rest := []) (mX11_isCell (l := l) (E := E) (ids := ids) hY he5) (by decide) rfl hl.1 rfl (Nat.le_of_ble_eq_true rfl) dX11_look_10 ⟨Nat.le_refl _, Nat.le_refl _⟩) (fun H locs hw => ?_)
    refine lv_if_eq (tgt := 54) C.1 C.2.1 dX11_look_13 (by decide) (fun hc8 => ?_) (fun hc8 => ?_)
    · replace hf := ea_if_t hc8 hf
      refine lv_bipush (v := (-2 : Int32)) C.1 C.2.1 dX11_look_54 (by decide) ?_
      exact ea_iret C hw hf dX11_look_56
    · replace hf := ea_if_f hc8 hf
      refine lv_iload_n C.1 C.2.1 dX11_look_16 rfl (lv_at hl 3 rfl) ?_
      refine lv_iconst (v := 0) C.1 C.2.1 dX11_look_17 (by decide) ?_
      refine lv_iconst (v := 1) C.1 C.2.1 dX11_look_18 (by decide) ?_
      obtain ⟨r10, M11, he9, hf⟩ := ea_ci_s hf
      refine ea_runi2 hw (cl_X11_172 C hw (As := [.int x3, .int (0 : Int32), .int (1 : Int32)]) (rest := []) (mX11_in (l := l) (E := E) (ids := ids) hY he9) (by decide) rfl hl.1 rfl (Nat.le_of_ble_eq_true rfl) dX11_look_19 ⟨Nat.le_refl _, Nat.le_refl _⟩) (fun H locs hw => ?_)
      refine lv_if_eq (tgt := 54) C.1 C.2.1 dX11_look_22 (by decide) (fun hc12 => ?_) (fun hc12 => ?_)
      · replace hf := ea_if_t hc12 hf
        refine lv_bipush (v := (-2 : Int32)) C.1 C.2.1 dX11_look_54 (by decide) ?_
        exact ea_iret C hw hf dX11_look_56
      · replace hf := ea_if_f hc12 hf
        refine lv_iload C.1 C.2.1 dX11_look_25 (lv_at hl 4 rfl) ?_
        refine lv_iload C.1 C.2.1 dX11_look_27 (lv_at hl 5 rfl) ?_
        refine lv_iload C.1 C.2.1 dX11_look_29 (lv_at hl 6 rfl) ?_
        obtain ⟨r14, M15, he13, hf⟩ := ea_ci_s hf
        refine ea_runi2 hw (cl_X11_267 C hw (As := [.int x4, .int x5, .int x6]) (rest := []) (mX11_areColours (l := l) (E := E) (ids := ids) hY he13) (by decide) rfl hl.1 rfl (Nat.le_of_ble_eq_true rfl) dX11_look_31 ⟨Nat.le_refl _, Nat.le_refl _⟩) (fun H locs hw => ?_)
        refine lv_if_eq (tgt := 54) C.1 C.2.1 dX11_look_34 (by decide) (fun hc16 => ?_) (fun hc16 => ?_)
        · replace hf := ea_if_t hc16 hf
          refine lv_bipush (v := (-2 : Int32)) C.1 C.2.1 dX11_look_54 (by decide) ?_
          exact ea_iret C hw hf dX11_look_56
        · replace hf := ea_if_f hc16 hf
          refine lv_aload_n C.1 C.2.1 dX11_look_37 rfl (lv_at hl 0 rfl) ?_
          refine lv_iload_n C.1 C.2.1 dX11_look_38 rfl (lv_at hl 1 rfl) ?_
          refine lv_iload_n C.1 C.2.1 dX11_look_39 rfl (lv_at hl 2 rfl) ?_
          refine lv_iload_n C.1 C.2.1 dX11_look_40 rfl (lv_at hl 3 rfl) ?_
          refine lv_iload C.1 C.2.1 dX11_look_41 (lv_at hl 4 rfl) ?_
          refine lv_iload C.1 C.2.1 dX11_look_43 (lv_at hl 5 rfl) ?_
          refine lv_iload C.1 C.2.1 dX11_look_45 (lv_at hl 6 rfl) ?_
          refine lv_iconst (v := 0) C.1 C.2.1 dX11_look_47 (by decide) ?_
          obtain ⟨r18, M19, he17, hf⟩ := ea_ci_s hf
          refine ea_runi2 hw (cl_X11_270 C hw (hY 100 11 rfl) (As := [.int x1, .int x2, .int x3, .int x4, .int x5, .int x6, .int (0 : Int32)]) (rest := []) (mX11_addLook (l := l) (E := E) (ids := ids) hY he17) (by decide) rfl hl.1 rfl (Nat.le_of_ble_eq_true rfl) dX11_look_48 ⟨Nat.le_refl _, Nat.le_refl _⟩) (fun H locs hw => ?_)
          refine lv_goto (tgt := 56) C.1 C.2.1 dX11_look_51 (by decide) ?_
          exact ea_iret C hw hf dX11_look_56
set_option maxHeartbeats 4000000 in
set_option maxRecDepth 20000 in
theorem mX11_look {l : Launch} {E : eE} {ids : List Nat} (hY : ea_Y ids) {x1 : Int32} {x2 : Int32} {x3 : Int32} {x4 : Int32} {x5 : Int32} {x6 : Int32} {M : eM} {res : Int32 × eM} (hf : fX11_look x1 x2 x3 x4 x5 x6 M = some res) : ea_Mi l yX11_look cX11_look 7 (some .int) 2 44 E ids [.ref (E.1 100), .int x1, .int x2, .int x3, .int x4, .int x5, .int x6] M res := by
  refine ea_goi (by decide) (Nat.le_of_ble_eq_true rfl) wc_X11_look ?_
  intro p e s m below meth cd ls C hw hl
  exact wX11_look_0 C hY _ _ _ _ _ _ _ _ _ _ hf hw hl
end SX11_look

def fX11_mark_2 (k20 : eM → Option (eM)) (a1 : Nat) : Nat → Int32 → eM → Option (eM)
  | 0, _, _ => none
  | n + 1, x2, M => if (M.1 100 22) ≤ x2 then (k20 M) else (ea_ck (ea_ix x2 (ea_len a1)) (fX11_mark_2 k20 a1 n (x2 + (1 : Int32)) (ea_pI M a1 (x2.toNatClampNeg) (vp_nar .boolean (0 : Int32)))))
def fX11_mark_22 (a1 : Nat) : Nat → Int32 → eM → Option (eM)
  | 0, _, _ => none
  | n + 1, x2, M => if (M.1 100 33) ≤ x2 then (some M) else (ea_ck (ea_ix x2 (ea_len 119)) (ea_ck (ea_ix (M.1 119 x2.toNatClampNeg) (ea_len a1)) (fX11_mark_22 a1 n (x2 + (1 : Int32)) (ea_pI M a1 ((M.1 119 x2.toNatClampNeg).toNatClampNeg) (vp_nar .boolean (1 : Int32))))))
def fX11_mark_20 (a1 : Nat) (M : eM) : Option (eM) := fX11_mark_22 a1 ea_N (0 : Int32) M
def fX11_mark_0 (a1 : Nat) (M : eM) : Option (eM) := fX11_mark_2 (fX11_mark_20 a1) a1 ea_N (0 : Int32) M
def fX11_mark (a1 : Nat) (M : eM) : Option (eM) := fX11_mark_0 a1 M
section SX11_mark
variable {p : Program} {l : Launch} {e : Env} {s : State} {m : MethodId} {args : Array Value} {below : List Frame} {meth : Method} {cd : Code} {E : eE} {ids : List Nat} {res : eM} {a1 : Nat}
set_option maxHeartbeats 4000000 in
set_option maxRecDepth 20000 in
theorem wX11_mark_2 (C : ea_C p s m args meth cd cX11_mark 3 none RX11) (hY : ea_Y ids) (ho1 : ea_ok ids a1 23) {k20 : eM → Option (eM)} (hk20 : ∀  (M : eM) (H : Heap) (locs : List Loc) (ls : Array Slot), k20 M = some res → ea_w E ids M s H locs → lv_has ls 3 [(0, .ref (E.1 100)), (1, .ref (E.1 a1))] → W p l e (ea_rm 0 0) s m args below meth cd H locs 0 0 (MQ below (ea_Qv E ids res) args s 0 0 (ea_Ad E ids)) (F0 m 20 ls [])) : ∀ (n : Nat) (x2 : Int32) (M : eM) (H : Heap) (locs : List Loc) (ls : Array Slot), fX11_mark_2 k20 a1 n x2 M = some res → ea_w E ids M s H locs → lv_has ls 3 [(0, .ref (E.1 100)), (1, .ref (E.1 a1)), (2, .int x2)] → W p l e (ea_rm 0 0) s m args below meth cd H locs 0 0 (MQ below (ea_Qv E ids res) args s 0 0 (ea_Ad E ids)) (F0 m 2 ls []) := by
  intro n
  induction n with
  | zero => intro x2 M H locs ls hf; cases hf
  | succ n ih =>
    intro x2 M H locs ls hf  hw hl
    replace hf := (fX11_mark_2.eq_2 ..).symm.trans hf
    refine lv_iload_n C.1 C.2.1 dX11_mark_2 rfl (lv_at hl 2 rfl) ?_
    refine lv_aload_n C.1 C.2.1 dX11_mark_3 rfl (lv_at hl 0 rfl) ?_
    refine gf_X11_189 C hw (hY 100 11 rfl) dX11_mark_4 ?_
    refine lv_icmp_ge (tgt := 20) C.1 C.2.1 dX11_mark_7 (by decide) (fun hc1 => ?_) (fun hc1 => ?_)
    · replace hf := ea_if_t hc1 hf
      exact hk20 _ _ _ _ hf hw (lv_sub hl [0, 1] rfl)
    · replace hf := ea_if_f hc1 hf
      refine lv_aload_n C.1 C.2.1 dX11_mark_10 rfl (lv_at hl 1 rfl) ?_
      refine lv_iload_n C.1 C.2.1 dX11_mark_11 rfl (lv_at hl 2 rfl) ?_
      refine lv_iconst (v := 0) C.1 C.2.1 dX11_mark_12 (by decide) ?_
      obtain ⟨hc2, hf⟩ := ea_ck_s hf
      refine ea_zast C hw ho1 hc2 dX11_mark_13 (fun H locs hw => ?_)
      refine lv_iinc (v := x2 + (1 : Int32)) (lv' := [(2, .int (x2 + (1 : Int32))), (0, .ref (E.1 100)), (1, .ref (E.1 a1))]) C.1 C.2.1 dX11_mark_14 hl (k := 2) rfl rfl (by decide) rfl (fun ls hl => ?_)
      refine lv_goto (tgt := 2) C.1 C.2.1 dX11_mark_17 (by decide) ?_
      exact ih _ _ _ _ _ hf hw (lv_sub hl [1, 2, 0] rfl)
set_option maxHeartbeats 4000000 in
set_option maxRecDepth 20000 in
theorem wX11_mark_22 (C : ea_C p s m args meth cd cX11_mark 3 none RX11) (hY : ea_Y ids) (ho1 : ea_ok ids a1 23) : ∀ (n : Nat) (x2 : Int32) (M : eM) (H : Heap) (locs : List Loc) (ls : Array Slot), fX11_mark_22 a1 n x2 M = some res → ea_w E ids M s H locs → lv_has ls 3 [(0, .ref (E.1 100)), (1, .ref (E.1 a1)), (2, .int x2)] → W p l e (ea_rm 0 0) s m args below meth cd H locs 0 0 (MQ below (ea_Qv E ids res) args s 0 0 (ea_Ad E ids)) (F0 m 22 ls []) := by
  intro n
  induction n with
  | zero => intro x2 M H locs ls hf; cases hf
  | succ n ih =>
    intro x2 M H locs ls hf  hw hl
    replace hf := (fX11_mark_22.eq_2 ..).symm.trans hf
    refine lv_iload_n C.1 C.2.1 dX11_mark_22 rfl (lv_at hl 2 rfl) ?_
    refine lv_aload_n C.1 C.2.1 dX11_mark_23 rfl (lv_at hl 0 rfl) ?_
    refine gf_X11_300 C hw (hY 100 11 rfl) dX11_mark_24 ?_
    refine lv_icmp_ge (tgt := 45) C.1 C.2.1 dX11_mark_27 (by decide) (fun hc1 => ?_) (fun hc1 => ?_)
    · replace hf := ea_if_t hc1 hf
      exact ea_vret C hw hf dX11_mark_45
    · replace hf := ea_if_f hc1 hf
      refine lv_aload_n C.1 C.2.1 dX11_mark_30 rfl (lv_at hl 1 rfl) ?_
      refine lv_aload_n C.1 C.2.1 dX11_mark_31 rfl (lv_at hl 0 rfl) ?_
      refine gf_X11_71 C hw (hY 100 11 rfl) dX11_mark_32 ?_
      refine W.eq (g2 := F0 m 35 ls [.ref (E.1 119), .ref (E.1 a1)]) rfl ?_
      refine lv_iload_n C.1 C.2.1 dX11_mark_35 rfl (lv_at hl 2 rfl) ?_
      obtain ⟨hc2, hf⟩ := ea_ck_s hf
      refine ea_iald C hw (show ea_ok ids 119 20 from ok_11_35 (hY 100 11 rfl)) hc2 dX11_mark_36 ?_
      refine lv_iconst (v := 1) C.1 C.2.1 dX11_mark_37 (by decide) ?_
      obtain ⟨hc3, hf⟩ := ea_ck_s hf
      refine ea_zast C hw ho1 hc3 dX11_mark_38 (fun H locs hw => ?_)
      refine lv_iinc (v := x2 + (1 : Int32)) (lv' := [(2, .int (x2 + (1 : Int32))), (0, .ref (E.1 100)), (1, .ref (E.1 a1))]) C.1 C.2.1 dX11_mark_39 hl (k := 2) rfl rfl (by decide) rfl (fun ls hl => ?_)
      refine lv_goto (tgt := 22) C.1 C.2.1 dX11_mark_42 (by decide) ?_
      exact ih _ _ _ _ _ hf hw (lv_sub hl [1, 2, 0] rfl)
set_option maxHeartbeats 4000000 in
set_option maxRecDepth 20000 in
theorem wX11_mark_20 (C : ea_C p s m args meth cd cX11_mark 3 none RX11) (hY : ea_Y ids) (ho1 : ea_ok ids a1 23) : ∀  (M : eM) (H : Heap) (locs : List Loc) (ls : Array Slot), fX11_mark_20 a1 M = some res → ea_w E ids M s H locs → lv_has ls 3 [(0, .ref (E.1 100)), (1, .ref (E.1 a1))] → W p l e (ea_rm 0 0) s m args below meth cd H locs 0 0 (MQ below (ea_Qv E ids res) args s 0 0 (ea_Ad E ids)) (F0 m 20 ls []) := by
  intro M H locs ls hf  hw hl
  replace hf := (fX11_mark_20.eq_1 ..).symm.trans hf
  refine lv_iconst (v := 0) C.1 C.2.1 dX11_mark_20 (by decide) ?_
  refine lv_istore_n (lv' := [(2, .int (0 : Int32)), (0, .ref (E.1 100)), (1, .ref (E.1 a1))]) C.1 C.2.1 dX11_mark_21 rfl hl (by decide) rfl (fun ls hl => ?_)
  exact wX11_mark_22 C hY ho1 ea_N _ _ _ _ _ hf hw (lv_sub hl [1, 2, 0] rfl)
set_option maxHeartbeats 4000000 in
set_option maxRecDepth 20000 in
theorem wX11_mark_0 (C : ea_C p s m args meth cd cX11_mark 3 none RX11) (hY : ea_Y ids) (ho1 : ea_ok ids a1 23) : ∀  (M : eM) (H : Heap) (locs : List Loc) (ls : Array Slot), fX11_mark_0 a1 M = some res → ea_w E ids M s H locs → lv_has ls 3 [(0, .ref (E.1 100)), (1, .ref (E.1 a1))] → W p l e (ea_rm 0 0) s m args below meth cd H locs 0 0 (MQ below (ea_Qv E ids res) args s 0 0 (ea_Ad E ids)) (F0 m 0 ls []) := by
  intro M H locs ls hf  hw hl
  replace hf := (fX11_mark_0.eq_1 ..).symm.trans hf
  refine lv_iconst (v := 0) C.1 C.2.1 dX11_mark_0 (by decide) ?_
  refine lv_istore_n (lv' := [(2, .int (0 : Int32)), (0, .ref (E.1 100)), (1, .ref (E.1 a1))]) C.1 C.2.1 dX11_mark_1 rfl hl (by decide) rfl (fun ls hl => ?_)
  exact wX11_mark_2 C hY ho1 (wX11_mark_20 C hY ho1) ea_N _ _ _ _ _ hf hw (lv_sub hl [1, 2, 0] rfl)
set_option maxHeartbeats 4000000 in
set_option maxRecDepth 20000 in
theorem mX11_mark {l : Launch} {E : eE} {ids : List Nat} (hY : ea_Y ids) {a1 : Nat} (ho1 : ea_ok ids a1 23) {M : eM} {res : eM} (hf : fX11_mark a1 M = some res) : ea_Mv l yX11_mark cX11_mark 3 0 0 E ids [.ref (E.1 100), .ref (E.1 a1)] M res := by
  refine ea_gov (by decide) (Nat.le_of_ble_eq_true rfl) wc_X11_mark ?_
  intro p e s m below meth cd ls C hw hl
  exact wX11_mark_0 C hY ho1  _ _ _ _ hf hw hl
end SX11_mark

def fX11_mended_52 (k26 : Int32 → Int32 → eM → Option (Int32 × eM)) (x5 : Int32) (t0 : Int32) (t1 : Int32) (M : eM) : Option (Int32 × eM) := k26 (t1 + t0) (x5 + (1 : Int32)) M
def fX11_mended_26 (k61 : Int32 → eM → Option (Int32 × eM)) : Nat → Int32 → Int32 → eM → Option (Int32 × eM)
  | 0, _, _, _ => none
  | n + 1, x4, x5, M => if (M.1 100 33) ≤ x5 then (k61 x4 M) else (ea_ck (ea_ix x5 (ea_len 120)) (if (M.1 120 x5.toNatClampNeg) = 0 then (fX11_mended_52 (fX11_mended_26 k61 n) x5 (1 : Int32) x4 M) else (fX11_mended_52 (fX11_mended_26 k61 n) x5 (0 : Int32) x4 M)))
def fX11_mended_61 (x4 : Int32) (M : eM) : Option (Int32 × eM) := if (M.1 100 33) = 0 then (some ((-1 : Int32), M)) else (if x4 = (M.1 100 33) then (some ((0 : Int32), M)) else (if x4 = 0 then (some ((1 : Int32), M)) else (some ((2 : Int32), M))))
def fX11_mended_0 (x1 : Int32) (x2 : Int32) (x3 : Int32) (M : eM) : Option (Int32 × eM) := ea_ci (fX11_isAsked x1 x2 x3 M) (fun r2 M3 => if r2 = 0 then (some ((-2 : Int32), M3)) else (ea_cv (fX11_findFits x1 x2 x3 M3) (fun M6 => fX11_mended_26 (fX11_mended_61) ea_N (0 : Int32) (0 : Int32) M6)))
def fX11_mended (x1 : Int32) (x2 : Int32) (x3 : Int32) (M : eM) : Option (Int32 × eM) := fX11_mended_0 x1 x2 x3 M
section SX11_mended
variable {p : Program} {l : Launch} {e : Env} {s : State} {m : MethodId} {args : Array Value} {below : List Frame} {meth : Method} {cd : Code} {E : eE} {ids : List Nat} {res : Int32 × eM}
set_option maxHeartbeats 4000000 in
set_option maxRecDepth 20000 in
theorem wX11_mended_52 (C : ea_C p s m args meth cd cX11_mended 6 (some .int) RX11) (hY : ea_Y ids) {k26 : Int32 → Int32 → eM → Option (Int32 × eM)} (hk26 : ∀ (x4 : Int32) (x5 : Int32) (M : eM) (H : Heap) (locs : List Loc) (ls : Array Slot), k26 x4 x5 M = some res → ea_w E ids M s H locs → lv_has ls 6 [(0, .ref (E.1 100)), (4, .int x4), (5, .int x5)] → W p l e (ea_rm 6 143) s m args below meth cd H locs 0 0 (MQ below (ea_Qi E ids res) args s 0 0 (ea_Ad E ids)) (F0 m 26 ls [])) : ∀ (x5 : Int32) (t0 : Int32) (t1 : Int32) (M : eM) (H : Heap) (locs : List Loc) (ls : Array Slot), fX11_mended_52 k26 x5 t0 t1 M = some res → ea_w E ids M s H locs → lv_has ls 6 [(0, .ref (E.1 100)), (5, .int x5)] → W p l e (ea_rm 6 143) s m args below meth cd H locs 0 0 (MQ below (ea_Qi E ids res) args s 0 0 (ea_Ad E ids)) (F0 m 52 ls [.int t0, .int t1]) := by
  intro x5 t0 t1 M H locs ls hf  hw hl
  replace hf := (fX11_mended_52.eq_1 ..).symm.trans hf
  refine lv_iadd C.1 C.2.1 dX11_mended_52 ?_
  refine lv_istore (lv' := [(4, .int (t1 + t0)), (0, .ref (E.1 100)), (5, .int x5)]) C.1 C.2.1 dX11_mended_53 hl (by decide) rfl (fun ls hl => ?_)
  refine lv_iinc (v := x5 + (1 : Int32)) (lv' := [(5, .int (x5 + (1 : Int32))), (4, .int (t1 + t0)), (0, .ref (E.1 100))]) C.1 C.2.1 dX11_mended_55 hl (k := 2) rfl rfl (by decide) rfl (fun ls hl => ?_)
  refine lv_goto (tgt := 26) C.1 C.2.1 dX11_mended_58 (by decide) ?_
  exact hk26 _ _ _ _ _ _ hf hw (lv_sub hl [2, 1, 0] rfl)
set_option maxHeartbeats 4000000 in
set_option maxRecDepth 20000 in
theorem wX11_mended_26 (C : ea_C p s m args meth cd cX11_mended 6 (some .int) RX11) (hY : ea_Y ids) {k61 : Int32 → eM → Option (Int32 × eM)} (hk61 : ∀ (x4 : Int32) (M : eM) (H : Heap) (locs : List Loc) (ls : Array Slot), k61 x4 M = some res → ea_w E ids M s H locs → lv_has ls 6 [(0, .ref (E.1 100)), (4, .int x4)] → W p l e (ea_rm 6 143) s m args below meth cd H locs 0 0 (MQ below (ea_Qi E ids res) args s 0 0 (ea_Ad E ids)) (F0 m 61 ls [])) : ∀ (n : Nat) (x4 : Int32) (x5 : Int32) (M : eM) (H : Heap) (locs : List Loc) (ls : Array Slot), fX11_mended_26 k61 n x4 x5 M = some res → ea_w E ids M s H locs → lv_has ls 6 [(0, .ref (E.1 100)), (4, .int x4), (5, .int x5)] → W p l e (ea_rm 6 143) s m args below meth cd H locs 0 0 (MQ below (ea_Qi E ids res) args s 0 0 (ea_Ad E ids)) (F0 m 26 ls []) := by
  intro n
  induction n with
  | zero => intro x4 x5 M H locs ls hf; cases hf
  | succ n ih =>
    intro x4 x5 M H locs ls hf  hw hl
    replace hf := (fX11_mended_26.eq_2 ..).symm.trans hf
    refine lv_iload C.1 C.2.1 dX11_mended_26 (lv_at hl 2 rfl) ?_
    refine lv_aload_n C.1 C.2.1 dX11_mended_28 rfl (lv_at hl 0 rfl) ?_
    refine gf_X11_300 C hw (hY 100 11 rfl) dX11_mended_29 ?_
    refine lv_icmp_ge (tgt := 61) C.1 C.2.1 dX11_mended_32 (by decide) (fun hc1 => ?_) (fun hc1 => ?_)
    · replace hf := ea_if_t hc1 hf
      exact hk61 _ _ _ _ _ hf hw (lv_sub hl [0, 1] rfl)
    · replace hf := ea_if_f hc1 hf
      refine lv_iload C.1 C.2.1 dX11_mended_35 (lv_at hl 1 rfl) ?_
      refine lv_aload_n C.1 C.2.1 dX11_mended_37 rfl (lv_at hl 0 rfl) ?_
      refine gf_X11_74 C hw (hY 100 11 rfl) dX11_mended_38 ?_
      refine W.eq (g2 := F0 m 41 ls [.ref (E.1 120), .int x4]) rfl ?_
      refine lv_iload C.1 C.2.1 dX11_mended_41 (lv_at hl 2 rfl) ?_
      obtain ⟨hc2, hf⟩ := ea_ck_s hf
      refine ea_iald C hw (show ea_ok ids 120 20 from ok_11_36 (hY 100 11 rfl)) hc2 dX11_mended_43 ?_
      refine lv_if_ne (tgt := 51) C.1 C.2.1 dX11_mended_44 (by decide) (fun hc3 => ?_) (fun hc3 => ?_)
      · replace hf := ea_if_f hc3 hf
        refine lv_iconst (v := 0) C.1 C.2.1 dX11_mended_51 (by decide) ?_
        exact wX11_mended_52 C hY ih _ _ _ _ _ _ _ hf hw (lv_sub hl [0, 2] rfl)
      · replace hf := ea_if_t hc3 hf
        refine lv_iconst (v := 1) C.1 C.2.1 dX11_mended_47 (by decide) ?_
        refine lv_goto (tgt := 52) C.1 C.2.1 dX11_mended_48 (by decide) ?_
        exact wX11_mended_52 C hY ih _ _ _ _ _ _ _ hf hw (lv_sub hl [0, 2] rfl)
set_option maxHeartbeats 4000000 in
set_option maxRecDepth 20000 in
theorem wX11_mended_61 (C : ea_C p s m args meth cd cX11_mended 6 (some .int) RX11) (hY : ea_Y ids) : ∀ (x4 : Int32) (M : eM) (H : Heap) (locs : List Loc) (ls : Array Slot), fX11_mended_61 x4 M = some res → ea_w E ids M s H locs → lv_has ls 6 [(0, .ref (E.1 100)), (4, .int x4)] → W p l e (ea_rm 6 143) s m args below meth cd H locs 0 0 (MQ below (ea_Qi E ids res) args s 0 0 (ea_Ad E ids)) (F0 m 61 ls []) := by
  intro x4 M H locs ls hf  hw hl
  replace hf := (fX11_mended_61.eq_1 ..).symm.trans hf
  refine lv_aload_n C.1 C.2.1 dX11_mended_61 rfl (lv_at hl 0 rfl) ?_
  refine gf_X11_300 C hw (hY 100 11 rfl) dX11_mended_62 ?_
  refine lv_if_ne (tgt := 72) C.1 C.2.1 dX11_mended_65 (by decide) (fun hc1 => ?_) (fun hc1 => ?_)
  · replace hf := ea_if_f hc1 hf
    refine lv_iload C.1 C.2.1 dX11_mended_72 (lv_at hl 1 rfl) ?_
    refine lv_aload_n C.1 C.2.1 dX11_mended_74 rfl (lv_at hl 0 rfl) ?_
    refine gf_X11_300 C hw (hY 100 11 rfl) dX11_mended_75 ?_
    refine lv_icmp_ne (tgt := 85) C.1 C.2.1 dX11_mended_78 (by decide) (fun hc2 => ?_) (fun hc2 => ?_)
    · replace hf := ea_if_f hc2 hf
      refine lv_iload C.1 C.2.1 dX11_mended_85 (lv_at hl 1 rfl) ?_
      refine lv_if_ne (tgt := 94) C.1 C.2.1 dX11_mended_87 (by decide) (fun hc3 => ?_) (fun hc3 => ?_)
      · replace hf := ea_if_f hc3 hf
        refine lv_iconst (v := 2) C.1 C.2.1 dX11_mended_94 (by decide) ?_
        exact ea_iret C hw hf dX11_mended_95
      · replace hf := ea_if_t hc3 hf
        refine lv_iconst (v := 1) C.1 C.2.1 dX11_mended_90 (by decide) ?_
        refine lv_goto (tgt := 95) C.1 C.2.1 dX11_mended_91 (by decide) ?_
        exact ea_iret C hw hf dX11_mended_95
    · replace hf := ea_if_t hc2 hf
      refine lv_iconst (v := 0) C.1 C.2.1 dX11_mended_81 (by decide) ?_
      refine lv_goto (tgt := 95) C.1 C.2.1 dX11_mended_82 (by decide) ?_
      exact ea_iret C hw hf dX11_mended_95
  · replace hf := ea_if_t hc1 hf
    refine lv_iconst (v := (-1 : Int32)) C.1 C.2.1 dX11_mended_68 (by decide) ?_
    refine lv_goto (tgt := 95) C.1 C.2.1 dX11_mended_69 (by decide) ?_
    exact ea_iret C hw hf dX11_mended_95
set_option maxHeartbeats 4000000 in
set_option maxRecDepth 20000 in
theorem wX11_mended_0 (C : ea_C p s m args meth cd cX11_mended 6 (some .int) RX11) (hY : ea_Y ids) : ∀ (x1 : Int32) (x2 : Int32) (x3 : Int32) (M : eM) (H : Heap) (locs : List Loc) (ls : Array Slot), fX11_mended_0 x1 x2 x3 M = some res → ea_w E ids M s H locs → lv_has ls 6 [(0, .ref (E.1 100)), (1, .int x1), (2, .int x2), (3, .int x3)] → W p l e (ea_rm 6 143) s m args below meth cd H locs 0 0 (MQ below (ea_Qi E ids res) args s 0 0 (ea_Ad E ids)) (F0 m 0 ls []) := by
  intro x1 x2 x3 M H locs ls hf  hw hl
  replace hf := (fX11_mended_0.eq_1 ..).symm.trans hf
  refine lv_aload_n C.1 C.2.1 dX11_mended_0 rfl (lv_at hl 0 rfl) ?_
  refine lv_iload_n C.1 C.2.1 dX11_mended_1 rfl (lv_at hl 1 rfl) ?_
  refine lv_iload_n C.1 C.2.1 dX11_mended_2 rfl (lv_at hl 2 rfl) ?_
  refine lv_iload_n C.1 C.2.1 dX11_mended_3 rfl (lv_at hl 3 rfl) ?_
  obtain ⟨r2, M3, he1, hf⟩ := ea_ci_s hf
  refine ea_runi2 hw (cl_X11_310 C hw (hY 100 11 rfl) (As := [.int x1, .int x2, .int x3]) (rest := []) (mX11_isAsked (l := l) (E := E) (ids := ids) hY he1) (by decide) rfl hl.1 rfl (Nat.le_of_ble_eq_true rfl) dX11_mended_4 ⟨Nat.le_refl _, Nat.le_refl _⟩) (fun H locs hw => ?_)
  refine lv_if_ne (tgt := 13) C.1 C.2.1 dX11_mended_7 (by decide) (fun hc4 => ?_) (fun hc4 => ?_)
  · replace hf := ea_if_f hc4 hf
    refine lv_aload_n C.1 C.2.1 dX11_mended_13 rfl (lv_at hl 0 rfl) ?_
    refine lv_iload_n C.1 C.2.1 dX11_mended_14 rfl (lv_at hl 1 rfl) ?_
    refine lv_iload_n C.1 C.2.1 dX11_mended_15 rfl (lv_at hl 2 rfl) ?_
    refine lv_iload_n C.1 C.2.1 dX11_mended_16 rfl (lv_at hl 3 rfl) ?_
    obtain ⟨M6, he5, hf⟩ := ea_cv_s hf
    refine ea_runv hw (cl_X11_313 C hw (hY 100 11 rfl) (As := [.int x1, .int x2, .int x3]) (rest := []) (mX11_findFits (l := l) (E := E) (ids := ids) hY he5) (by decide) rfl hl.1 rfl (Nat.le_of_ble_eq_true rfl) dX11_mended_17 ⟨Nat.le_refl _, Nat.le_refl _⟩) (fun H locs hw => ?_)
    refine lv_iconst (v := 0) C.1 C.2.1 dX11_mended_20 (by decide) ?_
    refine lv_istore (lv' := [(4, .int (0 : Int32)), (0, .ref (E.1 100)), (1, .int x1), (2, .int x2), (3, .int x3)]) C.1 C.2.1 dX11_mended_21 hl (by decide) rfl (fun ls hl => ?_)
    refine lv_iconst (v := 0) C.1 C.2.1 dX11_mended_23 (by decide) ?_
    refine lv_istore (lv' := [(5, .int (0 : Int32)), (4, .int (0 : Int32)), (0, .ref (E.1 100)), (1, .int x1), (2, .int x2), (3, .int x3)]) C.1 C.2.1 dX11_mended_24 hl (by decide) rfl (fun ls hl => ?_)
    exact wX11_mended_26 C hY (wX11_mended_61 C hY) ea_N _ _ _ _ _ _ hf hw (lv_sub hl [2, 1, 0] rfl)
  · replace hf := ea_if_t hc4 hf
    refine lv_bipush (v := (-2 : Int32)) C.1 C.2.1 dX11_mended_10 (by decide) ?_
    exact ea_iret C hw hf dX11_mended_12
set_option maxHeartbeats 4000000 in
set_option maxRecDepth 20000 in
theorem mX11_mended {l : Launch} {E : eE} {ids : List Nat} (hY : ea_Y ids) {x1 : Int32} {x2 : Int32} {x3 : Int32} {M : eM} {res : Int32 × eM} (hf : fX11_mended x1 x2 x3 M = some res) : ea_Mi l yX11_mended cX11_mended 6 (some .int) 6 143 E ids [.ref (E.1 100), .int x1, .int x2, .int x3] M res := by
  refine ea_goi (by decide) (Nat.le_of_ble_eq_true rfl) wc_X11_mended ?_
  intro p e s m below meth cd ls C hw hl
  exact wX11_mended_0 C hY _ _ _ _ _ _ _ hf hw hl
end SX11_mended

def fX11_mostAlike_3 (k25 : Int32 → Int32 → Int32 → eM → Option (Int32 × eM)) : Nat → Int32 → Int32 → Int32 → Int32 → eM → Option (Int32 × eM)
  | 0, _, _, _, _, _ => none
  | n + 1, x1, x2, x3, x4, M => if (8192 : Int32) ≤ x4 then (k25 x1 x2 x3 M) else (ea_ck (ea_ix x4 (ea_len 126)) (fX11_mostAlike_3 k25 n x1 x2 x3 (x4 + (1 : Int32)) (ea_pI M 126 (x4.toNatClampNeg) (0 : Int32))))
def fX11_mostAlike_122 (k157 : Int32 → Int32 → Int32 → Int32 → Int32 → Int32 → Int32 → eM → Option (Int32 × eM)) : Nat → Int32 → Int32 → Int32 → Int32 → Int32 → Int32 → Int32 → eM → Option (Int32 × eM)
  | 0, _, _, _, _, _, _, _, _ => none
  | n + 1, x1, x2, x3, x4, x5, x7, x8, M => ea_ck (ea_ix x8 (ea_len 126)) (if (M.1 126 x8.toNatClampNeg) ≤ 0 then (k157 x1 x2 x3 x4 x5 x7 x8 M) else (ea_ck (ea_ix x8 (ea_len 125)) (if (M.1 125 x8.toNatClampNeg) = x7 then (k157 x1 x2 x3 x4 x5 x7 x8 M) else (ea_lt ((x8 + (1 : Int32)) - (x8 + (1 : Int32)) / (8192 : Int32) * (8192 : Int32)) (fun y5 => fX11_mostAlike_122 k157 n x1 x2 x3 x4 x5 x7 y5 M)))))
def fX11_mostAlike_201 (k31 : Int32 → Int32 → Int32 → Int32 → Int32 → eM → Option (Int32 × eM)) (x1 : Int32) (x2 : Int32) (x3 : Int32) (x5 : Int32) (t0 : Int32) (M : eM) : Option (Int32 × eM) := k31 x1 x2 x3 t0 (x5 + (1 : Int32)) M
def fX11_mostAlike_157 (k31 : Int32 → Int32 → Int32 → Int32 → Int32 → eM → Option (Int32 × eM)) (x1 : Int32) (x2 : Int32) (x3 : Int32) (x4 : Int32) (x5 : Int32) (x7 : Int32) (x8 : Int32) (M : eM) : Option (Int32 × eM) := ea_ck (ea_ix x8 (ea_len 125)) (ea_ck (ea_ix x8 (ea_len 126)) (ea_ck (ea_ix x8 (ea_len 126)) (ea_ck (ea_ix x8 (ea_len 126)) (if ((ea_pI (ea_pI M 125 (x8.toNatClampNeg) x7) 126 (x8.toNatClampNeg) (((ea_pI M 125 (x8.toNatClampNeg) x7).1 126 x8.toNatClampNeg) + (1 : Int32))).1 126 x8.toNatClampNeg) ≤ x4 then (fX11_mostAlike_201 k31 x1 x2 x3 x5 x4 (ea_pI (ea_pI M 125 (x8.toNatClampNeg) x7) 126 (x8.toNatClampNeg) (((ea_pI M 125 (x8.toNatClampNeg) x7).1 126 x8.toNatClampNeg) + (1 : Int32)))) else (ea_ck (ea_ix x8 (ea_len 126)) (fX11_mostAlike_201 k31 x1 x2 x3 x5 ((ea_pI (ea_pI M 125 (x8.toNatClampNeg) x7) 126 (x8.toNatClampNeg) (((ea_pI M 125 (x8.toNatClampNeg) x7).1 126 x8.toNatClampNeg) + (1 : Int32))).1 126 x8.toNatClampNeg) (ea_pI (ea_pI M 125 (x8.toNatClampNeg) x7) 126 (x8.toNatClampNeg) (((ea_pI M 125 (x8.toNatClampNeg) x7).1 126 x8.toNatClampNeg) + (1 : Int32)))))))))
def fX11_mostAlike_31 : Nat → Int32 → Int32 → Int32 → Int32 → Int32 → eM → Option (Int32 × eM)
  | 0, _, _, _, _, _, _ => none
  | n + 1, x1, x2, x3, x4, x5, M => if (M.1 100 33) ≤ x5 then (some (x4, M)) else (ea_ck (ea_ix x5 (ea_len 120)) (ea_ci (fX11_hoursOf x1 x2 (M.1 120 x5.toNatClampNeg) (0 : Int32) M) (fun r4 M5 => ea_ck (ea_ix x5 (ea_len 119)) (ea_ci (fX11_colourOf (M5.1 119 x5.toNatClampNeg) (r4 + x3) (0 : Int32) M5) (fun r8 M9 => ea_ck (ea_ix x5 (ea_len 119)) (ea_ci (fX11_colourOf (M9.1 119 x5.toNatClampNeg) (r4 + x3) (1 : Int32) M9) (fun r12 M13 => ea_ck (ea_ix x5 (ea_len 119)) (ea_ci (fX11_colourOf (M13.1 119 x5.toNatClampNeg) (r4 + x3) (2 : Int32) M13) (fun r16 M17 => ea_lt ((((10000 : Int32) * r8) + ((100 : Int32) * r12)) + r16) (fun y18 => ea_lt ((y18 * (31 : Int32)) - (y18 * (31 : Int32)) / (8192 : Int32) * (8192 : Int32)) (fun y20 => fX11_mostAlike_122 (fX11_mostAlike_157 (fX11_mostAlike_31 n)) ea_N x1 x2 x3 x4 x5 y18 y20 M17)))))))))))
def fX11_mostAlike_25 (x1 : Int32) (x2 : Int32) (x3 : Int32) (M : eM) : Option (Int32 × eM) := fX11_mostAlike_31 ea_N x1 x2 x3 (0 : Int32) (0 : Int32) M
def fX11_mostAlike_0 (x1 : Int32) (x2 : Int32) (x3 : Int32) (M : eM) : Option (Int32 × eM) := fX11_mostAlike_3 (fX11_mostAlike_25) ea_N x1 x2 x3 (0 : Int32) M
def fX11_mostAlike (x1 : Int32) (x2 : Int32) (x3 : Int32) (M : eM) : Option (Int32 × eM) := fX11_mostAlike_0 x1 x2 x3 M
section SX11_mostAlike
variable {p : Program} {l : Launch} {e : Env} {s : State} {m : MethodId} {args : Array Value} {below : List Frame} {meth : Method} {cd : Code} {E : eE} {ids : List Nat} {res : Int32 × eM}
set_option maxHeartbeats 4000000 in
set_option maxRecDepth 20000 in
theorem wX11_mostAlike_3 (C : ea_C p s m args meth cd cX11_mostAlike 9 (some .int) RX11) (hY : ea_Y ids) {k25 : Int32 → Int32 → Int32 → eM → Option (Int32 × eM)} (hk25 : ∀ (x1 : Int32) (x2 : Int32) (x3 : Int32) (M : eM) (H : Heap) (locs : List Loc) (ls : Array Slot), k25 x1 x2 x3 M = some res → ea_w E ids M s H locs → lv_has ls 9 [(0, .ref (E.1 100)), (1, .int x1), (2, .int x2), (3, .int x3)] → W p l e (ea_rm 4 91) s m args below meth cd H locs 0 0 (MQ below (ea_Qi E ids res) args s 0 0 (ea_Ad E ids)) (F0 m 25 ls [])) : ∀ (n : Nat) (x1 : Int32) (x2 : Int32) (x3 : Int32) (x4 : Int32) (M : eM) (H : Heap) (locs : List Loc) (ls : Array Slot), fX11_mostAlike_3 k25 n x1 x2 x3 x4 M = some res → ea_w E ids M s H locs → lv_has ls 9 [(0, .ref (E.1 100)), (1, .int x1), (2, .int x2), (3, .int x3), (4, .int x4)] → W p l e (ea_rm 4 91) s m args below meth cd H locs 0 0 (MQ below (ea_Qi E ids res) args s 0 0 (ea_Ad E ids)) (F0 m 3 ls []) := by
  intro n
  induction n with
  | zero => intro x1 x2 x3 x4 M H locs ls hf; cases hf
  | succ n ih =>
    intro x1 x2 x3 x4 M H locs ls hf  hw hl
    replace hf := (fX11_mostAlike_3.eq_2 ..).symm.trans hf
    refine lv_iload C.1 C.2.1 dX11_mostAlike_3 (lv_at hl 4 rfl) ?_
    refine lv_sipush (v := 8192) C.1 C.2.1 dX11_mostAlike_5 (by decide) ?_
    refine lv_icmp_ge (tgt := 25) C.1 C.2.1 dX11_mostAlike_8 (by decide) (fun hc1 => ?_) (fun hc1 => ?_)
    · replace hf := ea_if_t hc1 hf
      exact hk25 _ _ _ _ _ _ _ hf hw (lv_sub hl [0, 1, 2, 3] rfl)
    · replace hf := ea_if_f hc1 hf
      refine lv_aload_n C.1 C.2.1 dX11_mostAlike_11 rfl (lv_at hl 0 rfl) ?_
      refine gf_X11_92 C hw (hY 100 11 rfl) dX11_mostAlike_12 ?_
      refine W.eq (g2 := F0 m 15 ls [.ref (E.1 126)]) rfl ?_
      refine lv_iload C.1 C.2.1 dX11_mostAlike_15 (lv_at hl 4 rfl) ?_
      refine lv_iconst (v := 0) C.1 C.2.1 dX11_mostAlike_17 (by decide) ?_
      obtain ⟨hc2, hf⟩ := ea_ck_s hf
      refine ea_iast C hw (show ea_ok ids 126 20 from ok_11_42 (hY 100 11 rfl)) hc2 dX11_mostAlike_18 (fun H locs hw => ?_)
      refine lv_iinc (v := x4 + (1 : Int32)) (lv' := [(4, .int (x4 + (1 : Int32))), (0, .ref (E.1 100)), (1, .int x1), (2, .int x2), (3, .int x3)]) C.1 C.2.1 dX11_mostAlike_19 hl (k := 4) rfl rfl (by decide) rfl (fun ls hl => ?_)
      refine lv_goto (tgt := 3) C.1 C.2.1 dX11_mostAlike_22 (by decide) ?_
      exact ih _ _ _ _ _ _ _ _ hf hw (lv_sub hl [1, 2, 3, 4, 0] rfl)
set_option maxHeartbeats 4000000 in
set_option maxRecDepth 20000 in
theorem wX11_mostAlike_122 (C : ea_C p s m args meth cd cX11_mostAlike 9 (some .int) RX11) (hY : ea_Y ids) {k157 : Int32 → Int32 → Int32 → Int32 → Int32 → Int32 → Int32 → eM → Option (Int32 × eM)} (hk157 : ∀ (x1 : Int32) (x2 : Int32) (x3 : Int32) (x4 : Int32) (x5 : Int32) (x7 : Int32) (x8 : Int32) (M : eM) (H : Heap) (locs : List Loc) (ls : Array Slot), k157 x1 x2 x3 x4 x5 x7 x8 M = some res → ea_w E ids M s H locs → lv_has ls 9 [(0, .ref (E.1 100)), (1, .int x1), (2, .int x2), (3, .int x3), (4, .int x4), (5, .int x5), (7, .int x7), (8, .int x8)] → W p l e (ea_rm 4 91) s m args below meth cd H locs 0 0 (MQ below (ea_Qi E ids res) args s 0 0 (ea_Ad E ids)) (F0 m 157 ls [])) : ∀ (n : Nat) (x1 : Int32) (x2 : Int32) (x3 : Int32) (x4 : Int32) (x5 : Int32) (x7 : Int32) (x8 : Int32) (M : eM) (H : Heap) (locs : List Loc) (ls : Array Slot), fX11_mostAlike_122 k157 n x1 x2 x3 x4 x5 x7 x8 M = some res → ea_w E ids M s H locs → lv_has ls 9 [(0, .ref (E.1 100)), (1, .int x1), (2, .int x2), (3, .int x3), (4, .int x4), (5, .int x5), (7, .int x7), (8, .int x8)] → W p l e (ea_rm 4 91) s m args below meth cd H locs 0 0 (MQ below (ea_Qi E ids res) args s 0 0 (ea_Ad E ids)) (F0 m 122 ls []) := by
  intro n
  induction n with
  | zero => intro x1 x2 x3 x4 x5 x7 x8 M H locs ls hf; cases hf
  | succ n ih =>
    intro x1 x2 x3 x4 x5 x7 x8 M H locs ls hf  hw hl
    replace hf := (fX11_mostAlike_122.eq_2 ..).symm.trans hf
    refine lv_aload_n C.1 C.2.1 dX11_mostAlike_122 rfl (lv_at hl 0 rfl) ?_
    refine gf_X11_92 C hw (hY 100 11 rfl) dX11_mostAlike_123 ?_
    refine W.eq (g2 := F0 m 126 ls [.ref (E.1 126)]) rfl ?_
    refine lv_iload C.1 C.2.1 dX11_mostAlike_126 (lv_at hl 7 rfl) ?_
    obtain ⟨hc1, hf⟩ := ea_ck_s hf
    refine ea_iald C hw (show ea_ok ids 126 20 from ok_11_42 (hY 100 11 rfl)) hc1 dX11_mostAlike_128 ?_
    refine lv_if_le (tgt := 157) C.1 C.2.1 dX11_mostAlike_129 (by decide) (fun hc2 => ?_) (fun hc2 => ?_)
    · replace hf := ea_if_t hc2 hf
      exact hk157 _ _ _ _ _ _ _ _ _ _ _ hf hw (lv_sub hl [0, 1, 2, 3, 4, 5, 6, 7] rfl)
    · replace hf := ea_if_f hc2 hf
      refine lv_aload_n C.1 C.2.1 dX11_mostAlike_132 rfl (lv_at hl 0 rfl) ?_
      refine gf_X11_89 C hw (hY 100 11 rfl) dX11_mostAlike_133 ?_
      refine W.eq (g2 := F0 m 136 ls [.ref (E.1 125)]) rfl ?_
      refine lv_iload C.1 C.2.1 dX11_mostAlike_136 (lv_at hl 7 rfl) ?_
      obtain ⟨hc3, hf⟩ := ea_ck_s hf
      refine ea_iald C hw (show ea_ok ids 125 20 from ok_11_41 (hY 100 11 rfl)) hc3 dX11_mostAlike_138 ?_
      refine lv_iload C.1 C.2.1 dX11_mostAlike_139 (lv_at hl 6 rfl) ?_
      refine lv_icmp_eq (tgt := 157) C.1 C.2.1 dX11_mostAlike_141 (by decide) (fun hc4 => ?_) (fun hc4 => ?_)
      · replace hf := ea_if_t hc4 hf
        exact hk157 _ _ _ _ _ _ _ _ _ _ _ hf hw (lv_sub hl [0, 1, 2, 3, 4, 5, 6, 7] rfl)
      · replace hf := ea_if_f hc4 hf
        refine lv_iload C.1 C.2.1 dX11_mostAlike_144 (lv_at hl 7 rfl) ?_
        refine lv_iconst (v := 1) C.1 C.2.1 dX11_mostAlike_146 (by decide) ?_
        refine lv_iadd C.1 C.2.1 dX11_mostAlike_147 ?_
        refine lv_sipush (v := 8192) C.1 C.2.1 dX11_mostAlike_148 (by decide) ?_
        refine lv_irem C.1 C.2.1 dX11_mostAlike_151 (by decide) ?_
        obtain ⟨y5, ey6, hf⟩ := ea_lt_s hf
        refine ea_topi ey6 ?_
        refine lv_istore (lv' := [(8, .int y5), (0, .ref (E.1 100)), (1, .int x1), (2, .int x2), (3, .int x3), (4, .int x4), (5, .int x5), (7, .int x7)]) C.1 C.2.1 dX11_mostAlike_152 hl (by decide) rfl (fun ls hl => ?_)
        refine lv_goto (tgt := 122) C.1 C.2.1 dX11_mostAlike_154 (by decide) ?_
        exact ih _ _ _ _ _ _ _ _ _ _ _ hf hw (lv_sub hl [1, 2, 3, 4, 5, 6, 7, 0] rfl)
set_option maxHeartbeats 4000000 in
set_option maxRecDepth 20000 in
theorem wX11_mostAlike_201 (C : ea_C p s m args meth cd cX11_mostAlike 9 (some .int) RX11) (hY : ea_Y ids) {k31 : Int32 → Int32 → Int32 → Int32 → Int32 → eM → Option (Int32 × eM)} (hk31 : ∀ (x1 : Int32) (x2 : Int32) (x3 : Int32) (x4 : Int32) (x5 : Int32) (M : eM) (H : Heap) (locs : List Loc) (ls : Array Slot), k31 x1 x2 x3 x4 x5 M = some res → ea_w E ids M s H locs → lv_has ls 9 [(0, .ref (E.1 100)), (1, .int x1), (2, .int x2), (3, .int x3), (4, .int x4), (5, .int x5)] → W p l e (ea_rm 4 91) s m args below meth cd H locs 0 0 (MQ below (ea_Qi E ids res) args s 0 0 (ea_Ad E ids)) (F0 m 31 ls [])) : ∀ (x1 : Int32) (x2 : Int32) (x3 : Int32) (x5 : Int32) (t0 : Int32) (M : eM) (H : Heap) (locs : List Loc) (ls : Array Slot), fX11_mostAlike_201 k31 x1 x2 x3 x5 t0 M = some res → ea_w E ids M s H locs → lv_has ls 9 [(0, .ref (E.1 100)), (1, .int x1), (2, .int x2), (3, .int x3), (5, .int x5)] → W p l e (ea_rm 4 91) s m args below meth cd H locs 0 0 (MQ below (ea_Qi E ids res) args s 0 0 (ea_Ad E ids)) (F0 m 201 ls [.int t0]) := by
  intro x1 x2 x3 x5 t0 M H locs ls hf  hw hl
  replace hf := (fX11_mostAlike_201.eq_1 ..).symm.trans hf
  refine lv_istore (lv' := [(4, .int t0), (0, .ref (E.1 100)), (1, .int x1), (2, .int x2), (3, .int x3), (5, .int x5)]) C.1 C.2.1 dX11_mostAlike_201 hl (by decide) rfl (fun ls hl => ?_)
  refine lv_iinc (v := x5 + (1 : Int32)) (lv' := [(5, .int (x5 + (1 : Int32))), (4, .int t0), (0, .ref (E.1 100)), (1, .int x1), (2, .int x2), (3, .int x3)]) C.1 C.2.1 dX11_mostAlike_203 hl (k := 5) rfl rfl (by decide) rfl (fun ls hl => ?_)
  refine lv_goto (tgt := 31) C.1 C.2.1 dX11_mostAlike_206 (by decide) ?_
  exact hk31 _ _ _ _ _ _ _ _ _ hf hw (lv_sub hl [2, 3, 4, 5, 1, 0] rfl)
set_option maxHeartbeats 4000000 in
set_option maxRecDepth 20000 in
theorem wX11_mostAlike_157 (C : ea_C p s m args meth cd cX11_mostAlike 9 (some .int) RX11) (hY : ea_Y ids) {k31 : Int32 → Int32 → Int32 → Int32 → Int32 → eM → Option (Int32 × eM)} (hk31 : ∀ (x1 : Int32) (x2 : Int32) (x3 : Int32) (x4 : Int32) (x5 : Int32) (M : eM) (H : Heap) (locs : List Loc) (ls : Array Slot), k31 x1 x2 x3 x4 x5 M = some res → ea_w E ids M s H locs → lv_has ls 9 [(0, .ref (E.1 100)), (1, .int x1), (2, .int x2), (3, .int x3), (4, .int x4), (5, .int x5)] → W p l e (ea_rm 4 91) s m args below meth cd H locs 0 0 (MQ below (ea_Qi E ids res) args s 0 0 (ea_Ad E ids)) (F0 m 31 ls [])) : ∀ (x1 : Int32) (x2 : Int32) (x3 : Int32) (x4 : Int32) (x5 : Int32) (x7 : Int32) (x8 : Int32) (M : eM) (H : Heap) (locs : List Loc) (ls : Array Slot), fX11_mostAlike_157 k31 x1 x2 x3 x4 x5 x7 x8 M = some res → ea_w E ids M s H locs → lv_has ls 9 [(0, .ref (E.1 100)), (1, .int x1), (2, .int x2), (3, .int x3), (4, .int x4), (5, .int x5), (7, .int x7), (8, .int x8)] → W p l e (ea_rm 4 91) s m args below meth cd H locs 0 0 (MQ below (ea_Qi E ids res) args s 0 0 (ea_Ad E ids)) (F0 m 157 ls []) := by
  intro x1 x2 x3 x4 x5 x7 x8 M H locs ls hf  hw hl
  replace hf := (fX11_mostAlike_157.eq_1 ..).symm.trans hf
  refine lv_aload_n C.1 C.2.1 dX11_mostAlike_157 rfl (lv_at hl 0 rfl) ?_
  refine gf_X11_89 C hw (hY 100 11 rfl) dX11_mostAlike_158 ?_
  refine W.eq (g2 := F0 m 161 ls [.ref (E.1 125)]) rfl ?_
  refine lv_iload C.1 C.2.1 dX11_mostAlike_161 (lv_at hl 7 rfl) ?_
  refine lv_iload C.1 C.2.1 dX11_mostAlike_163 (lv_at hl 6 rfl) ?_
  obtain ⟨hc1, hf⟩ := ea_ck_s hf
  refine ea_iast C hw (show ea_ok ids 125 20 from ok_11_41 (hY 100 11 rfl)) hc1 dX11_mostAlike_165 (fun H locs hw => ?_)
  refine lv_aload_n C.1 C.2.1 dX11_mostAlike_166 rfl (lv_at hl 0 rfl) ?_
  refine gf_X11_92 C hw (hY 100 11 rfl) dX11_mostAlike_167 ?_
  refine W.eq (g2 := F0 m 170 ls [.ref (E.1 126)]) rfl ?_
  refine lv_iload C.1 C.2.1 dX11_mostAlike_170 (lv_at hl 7 rfl) ?_
  refine lv_dup2_11 C.1 C.2.1 dX11_mostAlike_172 rfl rfl ?_
  obtain ⟨hc2, hf⟩ := ea_ck_s hf
  refine ea_iald C hw (show ea_ok ids 126 20 from ok_11_42 (hY 100 11 rfl)) hc2 dX11_mostAlike_173 ?_
  refine lv_iconst (v := 1) C.1 C.2.1 dX11_mostAlike_174 (by decide) ?_
  refine lv_iadd C.1 C.2.1 dX11_mostAlike_175 ?_
  obtain ⟨hc3, hf⟩ := ea_ck_s hf
  refine ea_iast C hw (show ea_ok ids 126 20 from ok_11_42 (hY 100 11 rfl)) hc3 dX11_mostAlike_176 (fun H locs hw => ?_)
  refine lv_aload_n C.1 C.2.1 dX11_mostAlike_177 rfl (lv_at hl 0 rfl) ?_
  refine gf_X11_92 C hw (hY 100 11 rfl) dX11_mostAlike_178 ?_
  refine W.eq (g2 := F0 m 181 ls [.ref (E.1 126)]) rfl ?_
  refine lv_iload C.1 C.2.1 dX11_mostAlike_181 (lv_at hl 7 rfl) ?_
  obtain ⟨hc4, hf⟩ := ea_ck_s hf
  refine ea_iald C hw (show ea_ok ids 126 20 from ok_11_42 (hY 100 11 rfl)) hc4 dX11_mostAlike_183 ?_
  refine lv_iload C.1 C.2.1 dX11_mostAlike_184 (lv_at hl 4 rfl) ?_
  refine lv_icmp_le (tgt := 199) C.1 C.2.1 dX11_mostAlike_186 (by decide) (fun hc5 => ?_) (fun hc5 => ?_)
  · replace hf := ea_if_t hc5 hf
    refine lv_iload C.1 C.2.1 dX11_mostAlike_199 (lv_at hl 4 rfl) ?_
    exact wX11_mostAlike_201 C hY hk31 _ _ _ _ _ _ _ _ _ hf hw (lv_sub hl [0, 1, 2, 3, 5] rfl)
  · replace hf := ea_if_f hc5 hf
    refine lv_aload_n C.1 C.2.1 dX11_mostAlike_189 rfl (lv_at hl 0 rfl) ?_
    refine gf_X11_92 C hw (hY 100 11 rfl) dX11_mostAlike_190 ?_
    refine W.eq (g2 := F0 m 193 ls [.ref (E.1 126)]) rfl ?_
    refine lv_iload C.1 C.2.1 dX11_mostAlike_193 (lv_at hl 7 rfl) ?_
    obtain ⟨hc6, hf⟩ := ea_ck_s hf
    refine ea_iald C hw (show ea_ok ids 126 20 from ok_11_42 (hY 100 11 rfl)) hc6 dX11_mostAlike_195 ?_
    refine lv_goto (tgt := 201) C.1 C.2.1 dX11_mostAlike_196 (by decide) ?_
    exact wX11_mostAlike_201 C hY hk31 _ _ _ _ _ _ _ _ _ hf hw (lv_sub hl [0, 1, 2, 3, 5] rfl)
set_option maxHeartbeats 4000000 in
set_option maxRecDepth 20000 in
theorem wX11_mostAlike_31 (C : ea_C p s m args meth cd cX11_mostAlike 9 (some .int) RX11) (hY : ea_Y ids) : ∀ (n : Nat) (x1 : Int32) (x2 : Int32) (x3 : Int32) (x4 : Int32) (x5 : Int32) (M : eM) (H : Heap) (locs : List Loc) (ls : Array Slot), fX11_mostAlike_31 n x1 x2 x3 x4 x5 M = some res → ea_w E ids M s H locs → lv_has ls 9 [(0, .ref (E.1 100)), (1, .int x1), (2, .int x2), (3, .int x3), (4, .int x4), (5, .int x5)] → W p l e (ea_rm 4 91) s m args below meth cd H locs 0 0 (MQ below (ea_Qi E ids res) args s 0 0 (ea_Ad E ids)) (F0 m 31 ls []) := by
  intro n
  induction n with
  | zero => intro x1 x2 x3 x4 x5 M H locs ls hf; cases hf
  | succ n ih =>
    intro x1 x2 x3 x4 x5 M H locs ls hf  hw hl
    replace hf := (fX11_mostAlike_31.eq_2 ..).symm.trans hf
    refine lv_iload C.1 C.2.1 dX11_mostAlike_31 (lv_at hl 5 rfl) ?_
    refine lv_aload_n C.1 C.2.1 dX11_mostAlike_33 rfl (lv_at hl 0 rfl) ?_
    refine gf_X11_300 C hw (hY 100 11 rfl) dX11_mostAlike_34 ?_
    refine lv_icmp_ge (tgt := 209) C.1 C.2.1 dX11_mostAlike_37 (by decide) (fun hc1 => ?_) (fun hc1 => ?_)
    · replace hf := ea_if_t hc1 hf
      refine lv_iload C.1 C.2.1 dX11_mostAlike_209 (lv_at hl 4 rfl) ?_
      exact ea_iret C hw hf dX11_mostAlike_211
    · replace hf := ea_if_f hc1 hf
      refine lv_aload_n C.1 C.2.1 dX11_mostAlike_40 rfl (lv_at hl 0 rfl) ?_
      refine lv_iload_n C.1 C.2.1 dX11_mostAlike_41 rfl (lv_at hl 1 rfl) ?_
      refine lv_iload_n C.1 C.2.1 dX11_mostAlike_42 rfl (lv_at hl 2 rfl) ?_
      refine lv_aload_n C.1 C.2.1 dX11_mostAlike_43 rfl (lv_at hl 0 rfl) ?_
      refine gf_X11_74 C hw (hY 100 11 rfl) dX11_mostAlike_44 ?_
      refine W.eq (g2 := F0 m 47 ls [.ref (E.1 120), .int x2, .int x1, .ref (E.1 100)]) rfl ?_
      refine lv_iload C.1 C.2.1 dX11_mostAlike_47 (lv_at hl 5 rfl) ?_
      obtain ⟨hc2, hf⟩ := ea_ck_s hf
      refine ea_iald C hw (show ea_ok ids 120 20 from ok_11_36 (hY 100 11 rfl)) hc2 dX11_mostAlike_49 ?_
      refine lv_iconst (v := 0) C.1 C.2.1 dX11_mostAlike_50 (by decide) ?_
      obtain ⟨r4, M5, he3, hf⟩ := ea_ci_s hf
      refine ea_runi2 hw (cl_X11_244 C hw (hY 100 11 rfl) (As := [.int x1, .int x2, .int (M.1 120 x5.toNatClampNeg), .int (0 : Int32)]) (rest := []) (mX11_hoursOf (l := l) (E := E) (ids := ids) hY he3) (by decide) rfl hl.1 rfl (Nat.le_of_ble_eq_true rfl) dX11_mostAlike_51 ⟨Nat.le_refl _, Nat.le_refl _⟩) (fun H locs hw => ?_)
      refine lv_iload_n C.1 C.2.1 dX11_mostAlike_54 rfl (lv_at hl 3 rfl) ?_
      refine lv_iadd C.1 C.2.1 dX11_mostAlike_55 ?_
      refine lv_istore (lv' := [(6, .int (r4 + x3)), (0, .ref (E.1 100)), (1, .int x1), (2, .int x2), (3, .int x3), (4, .int x4), (5, .int x5)]) C.1 C.2.1 dX11_mostAlike_56 hl (by decide) rfl (fun ls hl => ?_)
      refine lv_sipush (v := 10000) C.1 C.2.1 dX11_mostAlike_58 (by decide) ?_
      refine lv_aload_n C.1 C.2.1 dX11_mostAlike_61 rfl (lv_at hl 1 rfl) ?_
      refine lv_aload_n C.1 C.2.1 dX11_mostAlike_62 rfl (lv_at hl 1 rfl) ?_
      refine gf_X11_71 C hw (hY 100 11 rfl) dX11_mostAlike_63 ?_
      refine W.eq (g2 := F0 m 66 ls [.ref (E.1 119), .ref (E.1 100), .int (10000 : Int32)]) rfl ?_
      refine lv_iload C.1 C.2.1 dX11_mostAlike_66 (lv_at hl 6 rfl) ?_
      obtain ⟨hc6, hf⟩ := ea_ck_s hf
      refine ea_iald C hw (show ea_ok ids 119 20 from ok_11_35 (hY 100 11 rfl)) hc6 dX11_mostAlike_68 ?_
      refine lv_iload C.1 C.2.1 dX11_mostAlike_69 (lv_at hl 0 rfl) ?_
      refine lv_iconst (v := 0) C.1 C.2.1 dX11_mostAlike_71 (by decide) ?_
      obtain ⟨r8, M9, he7, hf⟩ := ea_ci_s hf
      refine ea_runi2 hw (cl_X11_257 C hw (hY 100 11 rfl) (As := [.int (M5.1 119 x5.toNatClampNeg), .int (r4 + x3), .int (0 : Int32)]) (rest := [.int (10000 : Int32)]) (mX11_colourOf (l := l) (E := E) (ids := ids) hY he7) (by decide) rfl hl.1 rfl (Nat.le_of_ble_eq_true rfl) dX11_mostAlike_72 ⟨Nat.le_refl _, Nat.le_refl _⟩) (fun H locs hw => ?_)
      refine lv_imul C.1 C.2.1 dX11_mostAlike_75 ?_
      refine lv_bipush (v := 100) C.1 C.2.1 dX11_mostAlike_76 (by decide) ?_
      refine lv_aload_n C.1 C.2.1 dX11_mostAlike_78 rfl (lv_at hl 1 rfl) ?_
      refine lv_aload_n C.1 C.2.1 dX11_mostAlike_79 rfl (lv_at hl 1 rfl) ?_
      refine gf_X11_71 C hw (hY 100 11 rfl) dX11_mostAlike_80 ?_
      refine W.eq (g2 := F0 m 83 ls [.ref (E.1 119), .ref (E.1 100), .int (100 : Int32), .int ((10000 : Int32) * r8)]) rfl ?_
      refine lv_iload C.1 C.2.1 dX11_mostAlike_83 (lv_at hl 6 rfl) ?_
      obtain ⟨hc10, hf⟩ := ea_ck_s hf
      refine ea_iald C hw (show ea_ok ids 119 20 from ok_11_35 (hY 100 11 rfl)) hc10 dX11_mostAlike_85 ?_
      refine lv_iload C.1 C.2.1 dX11_mostAlike_86 (lv_at hl 0 rfl) ?_
      refine lv_iconst (v := 1) C.1 C.2.1 dX11_mostAlike_88 (by decide) ?_
      obtain ⟨r12, M13, he11, hf⟩ := ea_ci_s hf
      refine ea_runi2 hw (cl_X11_257 C hw (hY 100 11 rfl) (As := [.int (M9.1 119 x5.toNatClampNeg), .int (r4 + x3), .int (1 : Int32)]) (rest := [.int (100 : Int32), .int ((10000 : Int32) * r8)]) (mX11_colourOf (l := l) (E := E) (ids := ids) hY he11) (by decide) rfl hl.1 rfl (Nat.le_of_ble_eq_true rfl) dX11_mostAlike_89 ⟨Nat.le_refl _, Nat.le_refl _⟩) (fun H locs hw => ?_)
      refine lv_imul C.1 C.2.1 dX11_mostAlike_92 ?_
      refine lv_iadd C.1 C.2.1 dX11_mostAlike_93 ?_
      refine lv_aload_n C.1 C.2.1 dX11_mostAlike_94 rfl (lv_at hl 1 rfl) ?_
      refine lv_aload_n C.1 C.2.1 dX11_mostAlike_95 rfl (lv_at hl 1 rfl) ?_
      refine gf_X11_71 C hw (hY 100 11 rfl) dX11_mostAlike_96 ?_
      refine W.eq (g2 := F0 m 99 ls [.ref (E.1 119), .ref (E.1 100), .int (((10000 : Int32) * r8) + ((100 : Int32) * r12))]) rfl ?_
      refine lv_iload C.1 C.2.1 dX11_mostAlike_99 (lv_at hl 6 rfl) ?_
      obtain ⟨hc14, hf⟩ := ea_ck_s hf
      refine ea_iald C hw (show ea_ok ids 119 20 from ok_11_35 (hY 100 11 rfl)) hc14 dX11_mostAlike_101 ?_
      refine lv_iload C.1 C.2.1 dX11_mostAlike_102 (lv_at hl 0 rfl) ?_
      refine lv_iconst (v := 2) C.1 C.2.1 dX11_mostAlike_104 (by decide) ?_
      obtain ⟨r16, M17, he15, hf⟩ := ea_ci_s hf
      refine ea_runi2 hw (cl_X11_257 C hw (hY 100 11 rfl) (As := [.int (M13.1 119 x5.toNatClampNeg), .int (r4 + x3), .int (2 : Int32)]) (rest := [.int (((10000 : Int32) * r8) + ((100 : Int32) * r12))]) (mX11_colourOf (l := l) (E := E) (ids := ids) hY he15) (by decide) rfl hl.1 rfl (Nat.le_of_ble_eq_true rfl) dX11_mostAlike_105 ⟨Nat.le_refl _, Nat.le_refl _⟩) (fun H locs hw => ?_)
      refine lv_iadd C.1 C.2.1 dX11_mostAlike_108 ?_
      obtain ⟨y18, ey19, hf⟩ := ea_lt_s hf
      refine ea_topi ey19 ?_
      refine lv_istore (lv' := [(7, .int y18), (6, .int (r4 + x3)), (0, .ref (E.1 100)), (1, .int x1), (2, .int x2), (3, .int x3), (4, .int x4), (5, .int x5)]) C.1 C.2.1 dX11_mostAlike_109 hl (by decide) rfl (fun ls hl => ?_)
      refine lv_iload C.1 C.2.1 dX11_mostAlike_111 (lv_at hl 0 rfl) ?_
      refine lv_bipush (v := 31) C.1 C.2.1 dX11_mostAlike_113 (by decide) ?_
      refine lv_imul C.1 C.2.1 dX11_mostAlike_115 ?_
      refine lv_sipush (v := 8192) C.1 C.2.1 dX11_mostAlike_116 (by decide) ?_
      refine lv_irem C.1 C.2.1 dX11_mostAlike_119 (by decide) ?_
      obtain ⟨y20, ey21, hf⟩ := ea_lt_s hf
      refine ea_topi ey21 ?_
      refine lv_istore (lv' := [(8, .int y20), (7, .int y18), (6, .int (r4 + x3)), (0, .ref (E.1 100)), (1, .int x1), (2, .int x2), (3, .int x3), (4, .int x4), (5, .int x5)]) C.1 C.2.1 dX11_mostAlike_120 hl (by decide) rfl (fun ls hl => ?_)
      exact wX11_mostAlike_122 C hY (wX11_mostAlike_157 C hY ih) ea_N _ _ _ _ _ _ _ _ _ _ _ hf hw (lv_sub hl [3, 4, 5, 6, 7, 8, 1, 0] rfl)
set_option maxHeartbeats 4000000 in
set_option maxRecDepth 20000 in
theorem wX11_mostAlike_25 (C : ea_C p s m args meth cd cX11_mostAlike 9 (some .int) RX11) (hY : ea_Y ids) : ∀ (x1 : Int32) (x2 : Int32) (x3 : Int32) (M : eM) (H : Heap) (locs : List Loc) (ls : Array Slot), fX11_mostAlike_25 x1 x2 x3 M = some res → ea_w E ids M s H locs → lv_has ls 9 [(0, .ref (E.1 100)), (1, .int x1), (2, .int x2), (3, .int x3)] → W p l e (ea_rm 4 91) s m args below meth cd H locs 0 0 (MQ below (ea_Qi E ids res) args s 0 0 (ea_Ad E ids)) (F0 m 25 ls []) := by
  intro x1 x2 x3 M H locs ls hf  hw hl
  replace hf := (fX11_mostAlike_25.eq_1 ..).symm.trans hf
  refine lv_iconst (v := 0) C.1 C.2.1 dX11_mostAlike_25 (by decide) ?_
  refine lv_istore (lv' := [(4, .int (0 : Int32)), (0, .ref (E.1 100)), (1, .int x1), (2, .int x2), (3, .int x3)]) C.1 C.2.1 dX11_mostAlike_26 hl (by decide) rfl (fun ls hl => ?_)
  refine lv_iconst (v := 0) C.1 C.2.1 dX11_mostAlike_28 (by decide) ?_
  refine lv_istore (lv' := [(5, .int (0 : Int32)), (4, .int (0 : Int32)), (0, .ref (E.1 100)), (1, .int x1), (2, .int x2), (3, .int x3)]) C.1 C.2.1 dX11_mostAlike_29 hl (by decide) rfl (fun ls hl => ?_)
  exact wX11_mostAlike_31 C hY ea_N _ _ _ _ _ _ _ _ _ hf hw (lv_sub hl [2, 3, 4, 5, 1, 0] rfl)
set_option maxHeartbeats 4000000 in
set_option maxRecDepth 20000 in
theorem wX11_mostAlike_0 (C : ea_C p s m args meth cd cX11_mostAlike 9 (some .int) RX11) (hY : ea_Y ids) : ∀ (x1 : Int32) (x2 : Int32) (x3 : Int32) (M : eM) (H : Heap) (locs : List Loc) (ls : Array Slot), fX11_mostAlike_0 x1 x2 x3 M = some res → ea_w E ids M s H locs → lv_has ls 9 [(0, .ref (E.1 100)), (1, .int x1), (2, .int x2), (3, .int x3)] → W p l e (ea_rm 4 91) s m args below meth cd H locs 0 0 (MQ below (ea_Qi E ids res) args s 0 0 (ea_Ad E ids)) (F0 m 0 ls []) := by
  intro x1 x2 x3 M H locs ls hf  hw hl
  replace hf := (fX11_mostAlike_0.eq_1 ..).symm.trans hf
  refine lv_iconst (v := 0) C.1 C.2.1 dX11_mostAlike_0 (by decide) ?_
  refine lv_istore (lv' := [(4, .int (0 : Int32)), (0, .ref (E.1 100)), (1, .int x1), (2, .int x2), (3, .int x3)]) C.1 C.2.1 dX11_mostAlike_1 hl (by decide) rfl (fun ls hl => ?_)
  exact wX11_mostAlike_3 C hY (wX11_mostAlike_25 C hY) ea_N _ _ _ _ _ _ _ _ hf hw (lv_sub hl [1, 2, 3, 4, 0] rfl)
set_option maxHeartbeats 4000000 in
set_option maxRecDepth 20000 in
theorem mX11_mostAlike {l : Launch} {E : eE} {ids : List Nat} (hY : ea_Y ids) {x1 : Int32} {x2 : Int32} {x3 : Int32} {M : eM} {res : Int32 × eM} (hf : fX11_mostAlike x1 x2 x3 M = some res) : ea_Mi l yX11_mostAlike cX11_mostAlike 9 (some .int) 4 91 E ids [.ref (E.1 100), .int x1, .int x2, .int x3] M res := by
  refine ea_goi (by decide) (Nat.le_of_ble_eq_true rfl) wc_X11_mostAlike ?_
  intro p e s m below meth cd ls C hw hl
  exact wX11_mostAlike_0 C hY _ _ _ _ _ _ _ hf hw hl
end SX11_mostAlike

def fX11_next_154 (k33 : Int32 → Int32 → Int32 → Int64 → Int64 → Int32 → eM → Option (Int32 × eM)) (x1 : Int32) (x2 : Int32) (x3 : Int32) (x4 : Int64) (x6 : Int64) (x8 : Int32) (M : eM) : Option (Int32 × eM) := k33 x1 x2 x3 x4 x6 (x8 + (1 : Int32)) M
def fX11_next_140 (k33 : Int32 → Int32 → Int32 → Int64 → Int64 → Int32 → eM → Option (Int32 × eM)) (x1 : Int32) (x2 : Int32) (x8 : Int32) (x10 : Int64) (M : eM) : Option (Int32 × eM) := fX11_next_154 k33 x1 x2 x8 x10 ((M.1 100 33).toInt64) x8 M
def fX11_next_76 (k33 : Int32 → Int32 → Int32 → Int64 → Int64 → Int32 → eM → Option (Int32 × eM)) (x1 : Int32) (x2 : Int32) (x3 : Int32) (x4 : Int64) (x6 : Int64) (x8 : Int32) (M : eM) : Option (Int32 × eM) := ea_cv (fX11_findFits x8 x1 (999 : Int32) M) (fun M2 => if (2 : Int32) ≤ (M2.1 100 34) then (ea_ck (ea_nz (M2.1 102 (0 : Int32).toNatClampNeg)) (ea_ci (fX11_mostAlike x1 (x8 - x8 / (M2.1 102 (0 : Int32).toNatClampNeg) * (M2.1 102 (0 : Int32).toNatClampNeg)) x2 M2) (fun r6 M7 => if x3 = (-1 : Int32) then (fX11_next_140 k33 x1 x2 x8 r6.toInt64 M7) else (if (lg_cmp (r6.toInt64 * x6) (x4 * ((M7.1 100 33).toInt64))) < 0 then (fX11_next_140 k33 x1 x2 x8 r6.toInt64 M7) else (fX11_next_154 k33 x1 x2 x3 x4 x6 x8 M7))))) else (fX11_next_154 k33 x1 x2 x3 x4 x6 x8 M2))
def fX11_next_33 : Nat → Int32 → Int32 → Int32 → Int64 → Int64 → Int32 → eM → Option (Int32 × eM)
  | 0, _, _, _, _, _, _, _ => none
  | n + 1, x1, x2, x3, x4, x6, x8, M => ea_ci (fX11_cells M) (fun r2 M3 => if r2 ≤ x8 then (some (x3, M3)) else (ea_ci (fX11_lookAt x8 (0 : Int32) (999 : Int32) M3) (fun r6 M7 => if r6 < 0 then (fX11_next_76 (fX11_next_33 n) x1 x2 x3 x4 x6 x8 M7) else (ea_ck (ea_ix (r6 + (6 : Int32)) (ea_len 114)) (if (M7.1 114 (r6 + (6 : Int32)).toNatClampNeg) = (1 : Int32) then (fX11_next_154 (fX11_next_33 n) x1 x2 x3 x4 x6 x8 M7) else (fX11_next_76 (fX11_next_33 n) x1 x2 x3 x4 x6 x8 M7))))))
def fX11_next_0 (x1 : Int32) (x2 : Int32) (M : eM) : Option (Int32 × eM) := ea_ci (fX11_isStory x1 M) (fun r2 M3 => if r2 = 0 then (some ((-2 : Int32), M3)) else (ea_ci (fX11_in x2 (1 : Int32) (999 : Int32) M3) (fun r6 M7 => if r6 = 0 then (some ((-2 : Int32), M7)) else (fX11_next_33 ea_N x1 x2 (-1 : Int32) (0 : Int64) (1 : Int64) (0 : Int32) M7))))
def fX11_next (x1 : Int32) (x2 : Int32) (M : eM) : Option (Int32 × eM) := fX11_next_0 x1 x2 M
section SX11_next
variable {p : Program} {l : Launch} {e : Env} {s : State} {m : MethodId} {args : Array Value} {below : List Frame} {meth : Method} {cd : Code} {E : eE} {ids : List Nat} {res : Int32 × eM}
set_option maxHeartbeats 4000000 in
set_option maxRecDepth 20000 in
theorem wX11_next_154 (C : ea_C p s m args meth cd cX11_next 12 (some .int) RX11) (hY : ea_Y ids) {k33 : Int32 → Int32 → Int32 → Int64 → Int64 → Int32 → eM → Option (Int32 × eM)} (hk33 : ∀ (x1 : Int32) (x2 : Int32) (x3 : Int32) (x4 : Int64) (x6 : Int64) (x8 : Int32) (M : eM) (H : Heap) (locs : List Loc) (ls : Array Slot), k33 x1 x2 x3 x4 x6 x8 M = some res → ea_w E ids M s H locs → lv_has ls 12 [(0, .ref (E.1 100)), (1, .int x1), (2, .int x2), (3, .int x3), (4, .long x4), (6, .long x6), (8, .int x8)] → W p l e (ea_rm 6 143) s m args below meth cd H locs 0 0 (MQ below (ea_Qi E ids res) args s 0 0 (ea_Ad E ids)) (F0 m 33 ls [])) : ∀ (x1 : Int32) (x2 : Int32) (x3 : Int32) (x4 : Int64) (x6 : Int64) (x8 : Int32) (M : eM) (H : Heap) (locs : List Loc) (ls : Array Slot), fX11_next_154 k33 x1 x2 x3 x4 x6 x8 M = some res → ea_w E ids M s H locs → lv_has ls 12 [(0, .ref (E.1 100)), (1, .int x1), (2, .int x2), (3, .int x3), (4, .long x4), (6, .long x6), (8, .int x8)] → W p l e (ea_rm 6 143) s m args below meth cd H locs 0 0 (MQ below (ea_Qi E ids res) args s 0 0 (ea_Ad E ids)) (F0 m 154 ls []) := by
  intro x1 x2 x3 x4 x6 x8 M H locs ls hf  hw hl
  replace hf := (fX11_next_154.eq_1 ..).symm.trans hf
  refine lv_iinc (v := x8 + (1 : Int32)) (lv' := [(8, .int (x8 + (1 : Int32))), (0, .ref (E.1 100)), (1, .int x1), (2, .int x2), (3, .int x3), (4, .long x4), (6, .long x6)]) C.1 C.2.1 dX11_next_154 hl (k := 6) rfl rfl (by decide) rfl (fun ls hl => ?_)
  refine lv_goto (tgt := 33) C.1 C.2.1 dX11_next_157 (by decide) ?_
  exact hk33 _ _ _ _ _ _ _ _ _ _ hf hw (lv_sub hl [1, 2, 3, 4, 5, 6, 0] rfl)
set_option maxHeartbeats 4000000 in
set_option maxRecDepth 20000 in
theorem wX11_next_140 (C : ea_C p s m args meth cd cX11_next 12 (some .int) RX11) (hY : ea_Y ids) {k33 : Int32 → Int32 → Int32 → Int64 → Int64 → Int32 → eM → Option (Int32 × eM)} (hk33 : ∀ (x1 : Int32) (x2 : Int32) (x3 : Int32) (x4 : Int64) (x6 : Int64) (x8 : Int32) (M : eM) (H : Heap) (locs : List Loc) (ls : Array Slot), k33 x1 x2 x3 x4 x6 x8 M = some res → ea_w E ids M s H locs → lv_has ls 12 [(0, .ref (E.1 100)), (1, .int x1), (2, .int x2), (3, .int x3), (4, .long x4), (6, .long x6), (8, .int x8)] → W p l e (ea_rm 6 143) s m args below meth cd H locs 0 0 (MQ below (ea_Qi E ids res) args s 0 0 (ea_Ad E ids)) (F0 m 33 ls [])) : ∀ (x1 : Int32) (x2 : Int32) (x8 : Int32) (x10 : Int64) (M : eM) (H : Heap) (locs : List Loc) (ls : Array Slot), fX11_next_140 k33 x1 x2 x8 x10 M = some res → ea_w E ids M s H locs → lv_has ls 12 [(0, .ref (E.1 100)), (1, .int x1), (2, .int x2), (8, .int x8), (10, .long x10)] → W p l e (ea_rm 6 143) s m args below meth cd H locs 0 0 (MQ below (ea_Qi E ids res) args s 0 0 (ea_Ad E ids)) (F0 m 140 ls []) := by
  intro x1 x2 x8 x10 M H locs ls hf  hw hl
  replace hf := (fX11_next_140.eq_1 ..).symm.trans hf
  refine lv_iload C.1 C.2.1 dX11_next_140 (lv_at hl 3 rfl) ?_
  refine lv_istore_n (lv' := [(3, .int x8), (0, .ref (E.1 100)), (1, .int x1), (2, .int x2), (8, .int x8), (10, .long x10)]) C.1 C.2.1 dX11_next_142 rfl hl (by decide) rfl (fun ls hl => ?_)
  refine lv_lload C.1 C.2.1 dX11_next_143 (lv_at hl 5 rfl) ?_
  refine lv_lstore (lv' := [(4, .long x10), (3, .int x8), (0, .ref (E.1 100)), (1, .int x1), (2, .int x2), (8, .int x8), (10, .long x10)]) C.1 C.2.1 dX11_next_145 hl (by decide) rfl (fun ls hl => ?_)
  refine lv_aload_n C.1 C.2.1 dX11_next_147 rfl (lv_at hl 2 rfl) ?_
  refine gf_X11_300 C hw (hY 100 11 rfl) dX11_next_148 ?_
  refine lv_i2l C.1 C.2.1 dX11_next_151 rfl ?_
  refine lv_lstore (lv' := [(6, .long ((M.1 100 33).toInt64)), (4, .long x10), (3, .int x8), (0, .ref (E.1 100)), (1, .int x1), (2, .int x2), (8, .int x8), (10, .long x10)]) C.1 C.2.1 dX11_next_152 hl (by decide) rfl (fun ls hl => ?_)
  exact wX11_next_154 C hY hk33 _ _ _ _ _ _ _ _ _ _ hf hw (lv_sub hl [3, 4, 5, 2, 1, 0, 6] rfl)
set_option maxHeartbeats 4000000 in
set_option maxRecDepth 20000 in
theorem wX11_next_76 (C : ea_C p s m args meth cd cX11_next 12 (some .int) RX11) (hY : ea_Y ids) {k33 : Int32 → Int32 → Int32 → Int64 → Int64 → Int32 → eM → Option (Int32 × eM)} (hk33 : ∀ (x1 : Int32) (x2 : Int32) (x3 : Int32) (x4 : Int64) (x6 : Int64) (x8 : Int32) (M : eM) (H : Heap) (locs : List Loc) (ls : Array Slot), k33 x1 x2 x3 x4 x6 x8 M = some res → ea_w E ids M s H locs → lv_has ls 12 [(0, .ref (E.1 100)), (1, .int x1), (2, .int x2), (3, .int x3), (4, .long x4), (6, .long x6), (8, .int x8)] → W p l e (ea_rm 6 143) s m args below meth cd H locs 0 0 (MQ below (ea_Qi E ids res) args s 0 0 (ea_Ad E ids)) (F0 m 33 ls [])) : ∀ (x1 : Int32) (x2 : Int32) (x3 : Int32) (x4 : Int64) (x6 : Int64) (x8 : Int32) (M : eM) (H : Heap) (locs : List Loc) (ls : Array Slot), fX11_next_76 k33 x1 x2 x3 x4 x6 x8 M = some res → ea_w E ids M s H locs → lv_has ls 12 [(0, .ref (E.1 100)), (1, .int x1), (2, .int x2), (3, .int x3), (4, .long x4), (6, .long x6), (8, .int x8)] → W p l e (ea_rm 6 143) s m args below meth cd H locs 0 0 (MQ below (ea_Qi E ids res) args s 0 0 (ea_Ad E ids)) (F0 m 76 ls []) := by
  intro x1 x2 x3 x4 x6 x8 M H locs ls hf  hw hl
  replace hf := (fX11_next_76.eq_1 ..).symm.trans hf
  refine lv_aload_n C.1 C.2.1 dX11_next_76 rfl (lv_at hl 0 rfl) ?_
  refine lv_iload C.1 C.2.1 dX11_next_77 (lv_at hl 6 rfl) ?_
  refine lv_iload_n C.1 C.2.1 dX11_next_79 rfl (lv_at hl 1 rfl) ?_
  refine lv_sipush (v := 999) C.1 C.2.1 dX11_next_80 (by decide) ?_
  obtain ⟨M2, he1, hf⟩ := ea_cv_s hf
  refine ea_runv hw (cl_X11_313 C hw (hY 100 11 rfl) (As := [.int x8, .int x1, .int (999 : Int32)]) (rest := []) (mX11_findFits (l := l) (E := E) (ids := ids) hY he1) (by decide) rfl hl.1 rfl (Nat.le_of_ble_eq_true rfl) dX11_next_83 ⟨Nat.le_refl _, Nat.le_refl _⟩) (fun H locs hw => ?_)
  refine lv_aload_n C.1 C.2.1 dX11_next_86 rfl (lv_at hl 0 rfl) ?_
  refine gf_X11_303 C hw (hY 100 11 rfl) dX11_next_87 ?_
  refine lv_iconst (v := 2) C.1 C.2.1 dX11_next_90 (by decide) ?_
  refine lv_icmp_ge (tgt := 97) C.1 C.2.1 dX11_next_91 (by decide) (fun hc3 => ?_) (fun hc3 => ?_)
  · replace hf := ea_if_t hc3 hf
    refine lv_aload_n C.1 C.2.1 dX11_next_97 rfl (lv_at hl 0 rfl) ?_
    refine lv_iload_n C.1 C.2.1 dX11_next_98 rfl (lv_at hl 1 rfl) ?_
    refine lv_iload C.1 C.2.1 dX11_next_99 (lv_at hl 6 rfl) ?_
    refine lv_aload_n C.1 C.2.1 dX11_next_101 rfl (lv_at hl 0 rfl) ?_
    refine gf_X11_17 C hw (hY 100 11 rfl) dX11_next_102 ?_
    refine W.eq (g2 := F0 m 105 ls [.ref (E.1 102), .int x8, .int x1, .ref (E.1 100)]) rfl ?_
    refine lv_iconst (v := 0) C.1 C.2.1 dX11_next_105 (by decide) ?_
    refine ea_iald C hw (show ea_ok ids 102 20 from ok_11_12 (hY 100 11 rfl)) (by decide) dX11_next_106 ?_
    obtain ⟨hc4, hf⟩ := ea_ck_s hf
    refine lv_irem C.1 C.2.1 dX11_next_107 (ea_nz_s hc4) ?_
    refine lv_iload_n C.1 C.2.1 dX11_next_108 rfl (lv_at hl 2 rfl) ?_
    obtain ⟨r6, M7, he5, hf⟩ := ea_ci_s hf
    refine ea_runi2 hw (cl_X11_336 C hw (hY 100 11 rfl) (As := [.int x1, .int (x8 - x8 / (M2.1 102 (0 : Int32).toNatClampNeg) * (M2.1 102 (0 : Int32).toNatClampNeg)), .int x2]) (rest := []) (mX11_mostAlike (l := l) (E := E) (ids := ids) hY he5) (by decide) rfl hl.1 rfl (Nat.le_of_ble_eq_true rfl) dX11_next_109 ⟨Nat.le_refl _, Nat.le_refl _⟩) (fun H locs hw => ?_)
    refine lv_i2l C.1 C.2.1 dX11_next_112 rfl ?_
    refine lv_lstore (lv' := [(10, .long r6.toInt64), (0, .ref (E.1 100)), (1, .int x1), (2, .int x2), (3, .int x3), (4, .long x4), (6, .long x6), (8, .int x8)]) C.1 C.2.1 dX11_next_113 hl (by decide) rfl (fun ls hl => ?_)
    refine lv_iload_n C.1 C.2.1 dX11_next_115 rfl (lv_at hl 4 rfl) ?_
    refine lv_iconst (v := (-1 : Int32)) C.1 C.2.1 dX11_next_116 (by decide) ?_
    refine lv_icmp_eq (tgt := 140) C.1 C.2.1 dX11_next_117 (by decide) (fun hc8 => ?_) (fun hc8 => ?_)
    · replace hf := ea_if_t hc8 hf
      exact wX11_next_140 C hY hk33 _ _ _ _ _ _ _ _ hf hw (lv_sub hl [1, 2, 3, 7, 0] rfl)
    · replace hf := ea_if_f hc8 hf
      refine lv_lload C.1 C.2.1 dX11_next_120 (lv_at hl 0 rfl) ?_
      refine lv_lload C.1 C.2.1 dX11_next_122 (lv_at hl 6 rfl) ?_
      refine lv_lmul C.1 C.2.1 dX11_next_124 ?_
      refine lv_lload C.1 C.2.1 dX11_next_125 (lv_at hl 5 rfl) ?_
      refine lv_aload_n C.1 C.2.1 dX11_next_127 rfl (lv_at hl 1 rfl) ?_
      refine gf_X11_300 C hw (hY 100 11 rfl) dX11_next_128 ?_
      refine lv_i2l C.1 C.2.1 dX11_next_131 rfl ?_
      refine lv_lmul C.1 C.2.1 dX11_next_132 ?_
      refine W.lcmp C.1 C.2.1 dX11_next_133 ?_
      refine lv_if_lt (tgt := 140) C.1 C.2.1 dX11_next_134 (by decide) (fun hc9 => ?_) (fun hc9 => ?_)
      · replace hf := ea_if_t hc9 hf
        exact wX11_next_140 C hY hk33 _ _ _ _ _ _ _ _ hf hw (lv_sub hl [1, 2, 3, 7, 0] rfl)
      · replace hf := ea_if_f hc9 hf
        refine lv_goto (tgt := 154) C.1 C.2.1 dX11_next_137 (by decide) ?_
        exact wX11_next_154 C hY hk33 _ _ _ _ _ _ _ _ _ _ hf hw (lv_sub hl [1, 2, 3, 4, 5, 6, 7] rfl)
  · replace hf := ea_if_f hc3 hf
    refine lv_goto (tgt := 154) C.1 C.2.1 dX11_next_94 (by decide) ?_
    exact wX11_next_154 C hY hk33 _ _ _ _ _ _ _ _ _ _ hf hw (lv_sub hl [0, 1, 2, 3, 4, 5, 6] rfl)
set_option maxHeartbeats 4000000 in
set_option maxRecDepth 20000 in
theorem wX11_next_33 (C : ea_C p s m args meth cd cX11_next 12 (some .int) RX11) (hY : ea_Y ids) : ∀ (n : Nat) (x1 : Int32) (x2 : Int32) (x3 : Int32) (x4 : Int64) (x6 : Int64) (x8 : Int32) (M : eM) (H : Heap) (locs : List Loc) (ls : Array Slot), fX11_next_33 n x1 x2 x3 x4 x6 x8 M = some res → ea_w E ids M s H locs → lv_has ls 12 [(0, .ref (E.1 100)), (1, .int x1), (2, .int x2), (3, .int x3), (4, .long x4), (6, .long x6), (8, .int x8)] → W p l e (ea_rm 6 143) s m args below meth cd H locs 0 0 (MQ below (ea_Qi E ids res) args s 0 0 (ea_Ad E ids)) (F0 m 33 ls []) := by
  intro n
  induction n with
  | zero => intro x1 x2 x3 x4 x6 x8 M H locs ls hf; cases hf
  | succ n ih =>
    intro x1 x2 x3 x4 x6 x8 M H locs ls hf  hw hl
    replace hf := (fX11_next_33.eq_2 ..).symm.trans hf
    refine lv_iload C.1 C.2.1 dX11_next_33 (lv_at hl 6 rfl) ?_
    refine lv_aload_n C.1 C.2.1 dX11_next_35 rfl (lv_at hl 0 rfl) ?_
    obtain ⟨r2, M3, he1, hf⟩ := ea_ci_s hf
    refine ea_runi2 hw (cl_X11_222 C hw (hY 100 11 rfl) (As := []) (rest := [.int x8]) (mX11_cells (l := l) (E := E) (ids := ids) hY he1) (by decide) rfl hl.1 rfl (Nat.le_of_ble_eq_true rfl) dX11_next_36 ⟨Nat.le_refl _, Nat.le_refl _⟩) (fun H locs hw => ?_)
    refine lv_icmp_ge (tgt := 160) C.1 C.2.1 dX11_next_39 (by decide) (fun hc4 => ?_) (fun hc4 => ?_)
    · replace hf := ea_if_t hc4 hf
      refine lv_iload_n C.1 C.2.1 dX11_next_160 rfl (lv_at hl 3 rfl) ?_
      exact ea_iret C hw hf dX11_next_161
    · replace hf := ea_if_f hc4 hf
      refine lv_aload_n C.1 C.2.1 dX11_next_42 rfl (lv_at hl 0 rfl) ?_
      refine lv_iload C.1 C.2.1 dX11_next_43 (lv_at hl 6 rfl) ?_
      refine lv_iconst (v := 0) C.1 C.2.1 dX11_next_45 (by decide) ?_
      refine lv_sipush (v := 999) C.1 C.2.1 dX11_next_46 (by decide) ?_
      obtain ⟨r6, M7, he5, hf⟩ := ea_ci_s hf
      refine ea_runi2 hw (cl_X11_277 C hw (hY 100 11 rfl) (As := [.int x8, .int (0 : Int32), .int (999 : Int32)]) (rest := []) (mX11_lookAt (l := l) (E := E) (ids := ids) hY he5) (by decide) rfl hl.1 rfl (Nat.le_of_ble_eq_true rfl) dX11_next_49 ⟨Nat.le_refl _, Nat.le_refl _⟩) (fun H locs hw => ?_)
      refine lv_istore (lv' := [(9, .int r6), (0, .ref (E.1 100)), (1, .int x1), (2, .int x2), (3, .int x3), (4, .long x4), (6, .long x6), (8, .int x8)]) C.1 C.2.1 dX11_next_52 hl (by decide) rfl (fun ls hl => ?_)
      refine lv_iload C.1 C.2.1 dX11_next_54 (lv_at hl 0 rfl) ?_
      refine lv_if_lt (tgt := 76) C.1 C.2.1 dX11_next_56 (by decide) (fun hc8 => ?_) (fun hc8 => ?_)
      · replace hf := ea_if_t hc8 hf
        exact wX11_next_76 C hY ih _ _ _ _ _ _ _ _ _ _ hf hw (lv_sub hl [1, 2, 3, 4, 5, 6, 7] rfl)
      · replace hf := ea_if_f hc8 hf
        refine lv_aload_n C.1 C.2.1 dX11_next_59 rfl (lv_at hl 1 rfl) ?_
        refine gf_X11_55 C hw (hY 100 11 rfl) dX11_next_60 ?_
        refine W.eq (g2 := F0 m 63 ls [.ref (E.1 114)]) rfl ?_
        refine lv_iload C.1 C.2.1 dX11_next_63 (lv_at hl 0 rfl) ?_
        refine lv_bipush (v := 6) C.1 C.2.1 dX11_next_65 (by decide) ?_
        refine lv_iadd C.1 C.2.1 dX11_next_67 ?_
        obtain ⟨hc9, hf⟩ := ea_ck_s hf
        refine ea_iald C hw (show ea_ok ids 114 20 from ok_11_27 (hY 100 11 rfl)) hc9 dX11_next_68 ?_
        refine lv_iconst (v := 1) C.1 C.2.1 dX11_next_69 (by decide) ?_
        refine lv_icmp_ne (tgt := 76) C.1 C.2.1 dX11_next_70 (by decide) (fun hc10 => ?_) (fun hc10 => ?_)
        · replace hf := ea_if_f hc10 hf
          exact wX11_next_76 C hY ih _ _ _ _ _ _ _ _ _ _ hf hw (lv_sub hl [1, 2, 3, 4, 5, 6, 7] rfl)
        · replace hf := ea_if_t hc10 hf
          refine lv_goto (tgt := 154) C.1 C.2.1 dX11_next_73 (by decide) ?_
          exact wX11_next_154 C hY ih _ _ _ _ _ _ _ _ _ _ hf hw (lv_sub hl [1, 2, 3, 4, 5, 6, 7] rfl)
set_option maxHeartbeats 4000000 in
set_option maxRecDepth 20000 in
theorem wX11_next_0 (C : ea_C p s m args meth cd cX11_next 12 (some .int) RX11) (hY : ea_Y ids) : ∀ (x1 : Int32) (x2 : Int32) (M : eM) (H : Heap) (locs : List Loc) (ls : Array Slot), fX11_next_0 x1 x2 M = some res → ea_w E ids M s H locs → lv_has ls 12 [(0, .ref (E.1 100)), (1, .int x1), (2, .int x2)] → W p l e (ea_rm 6 143) s m args below meth cd H locs 0 0 (MQ below (ea_Qi E ids res) args s 0 0 (ea_Ad E ids)) (F0 m 0 ls []) := by
  intro x1 x2 M H locs ls hf  hw hl
  replace hf := (fX11_next_0.eq_1 ..).symm.trans hf
  refine lv_aload_n C.1 C.2.1 dX11_next_0 rfl (lv_at hl 0 rfl) ?_
  refine lv_iload_n C.1 C.2.1 dX11_next_1 rfl (lv_at hl 1 rfl) ?_
  obtain ⟨r2, M3, he1, hf⟩ := ea_ci_s hf
  refine ea_runi2 hw (cl_X11_225 C hw (hY 100 11 rfl) (As := [.int x1]) (rest := []) (mX11_isStory (l := l) (E := E) (ids := ids) hY he1) (by decide) rfl hl.1 rfl (Nat.le_of_ble_eq_true rfl) dX11_next_2 ⟨Nat.le_refl _, Nat.le_refl _⟩) (fun H locs hw => ?_)
  refine lv_if_eq (tgt := 19) C.1 C.2.1 dX11_next_5 (by decide) (fun hc4 => ?_) (fun hc4 => ?_)
  · replace hf := ea_if_t hc4 hf
    refine lv_bipush (v := (-2 : Int32)) C.1 C.2.1 dX11_next_19 (by decide) ?_
    exact ea_iret C hw hf dX11_next_21
  · replace hf := ea_if_f hc4 hf
    refine lv_iload_n C.1 C.2.1 dX11_next_8 rfl (lv_at hl 2 rfl) ?_
    refine lv_iconst (v := 1) C.1 C.2.1 dX11_next_9 (by decide) ?_
    refine lv_sipush (v := 999) C.1 C.2.1 dX11_next_10 (by decide) ?_
    obtain ⟨r6, M7, he5, hf⟩ := ea_ci_s hf
    refine ea_runi2 hw (cl_X11_172 C hw (As := [.int x2, .int (1 : Int32), .int (999 : Int32)]) (rest := []) (mX11_in (l := l) (E := E) (ids := ids) hY he5) (by decide) rfl hl.1 rfl (Nat.le_of_ble_eq_true rfl) dX11_next_13 ⟨Nat.le_refl _, Nat.le_refl _⟩) (fun H locs hw => ?_)
    refine lv_if_ne (tgt := 22) C.1 C.2.1 dX11_next_16 (by decide) (fun hc8 => ?_) (fun hc8 => ?_)
    · replace hf := ea_if_f hc8 hf
      refine lv_iconst (v := (-1 : Int32)) C.1 C.2.1 dX11_next_22 (by decide) ?_
      refine lv_istore_n (lv' := [(3, .int (-1 : Int32)), (0, .ref (E.1 100)), (1, .int x1), (2, .int x2)]) C.1 C.2.1 dX11_next_23 rfl hl (by decide) rfl (fun ls hl => ?_)
      refine lv_lconst (v := (0 : Int64)) C.1 C.2.1 dX11_next_24 (by decide) ?_
      refine lv_lstore (lv' := [(4, .long (0 : Int64)), (3, .int (-1 : Int32)), (0, .ref (E.1 100)), (1, .int x1), (2, .int x2)]) C.1 C.2.1 dX11_next_25 hl (by decide) rfl (fun ls hl => ?_)
      refine lv_lconst (v := (1 : Int64)) C.1 C.2.1 dX11_next_27 (by decide) ?_
      refine lv_lstore (lv' := [(6, .long (1 : Int64)), (4, .long (0 : Int64)), (3, .int (-1 : Int32)), (0, .ref (E.1 100)), (1, .int x1), (2, .int x2)]) C.1 C.2.1 dX11_next_28 hl (by decide) rfl (fun ls hl => ?_)
      refine lv_iconst (v := 0) C.1 C.2.1 dX11_next_30 (by decide) ?_
      refine lv_istore (lv' := [(8, .int (0 : Int32)), (6, .long (1 : Int64)), (4, .long (0 : Int64)), (3, .int (-1 : Int32)), (0, .ref (E.1 100)), (1, .int x1), (2, .int x2)]) C.1 C.2.1 dX11_next_31 hl (by decide) rfl (fun ls hl => ?_)
      exact wX11_next_33 C hY ea_N _ _ _ _ _ _ _ _ _ _ hf hw (lv_sub hl [4, 5, 6, 3, 2, 1, 0] rfl)
    · replace hf := ea_if_t hc8 hf
      refine lv_bipush (v := (-2 : Int32)) C.1 C.2.1 dX11_next_19 (by decide) ?_
      exact ea_iret C hw hf dX11_next_21
set_option maxHeartbeats 4000000 in
set_option maxRecDepth 20000 in
theorem mX11_next {l : Launch} {E : eE} {ids : List Nat} (hY : ea_Y ids) {x1 : Int32} {x2 : Int32} {M : eM} {res : Int32 × eM} (hf : fX11_next x1 x2 M = some res) : ea_Mi l yX11_next cX11_next 12 (some .int) 6 143 E ids [.ref (E.1 100), .int x1, .int x2] M res := by
  refine ea_goi (by decide) (Nat.le_of_ble_eq_true rfl) wc_X11_next ?_
  intro p e s m below meth cd ls C hw hl
  exact wX11_next_0 C hY _ _ _ _ _ _ hf hw hl
end SX11_next

def fX11_pair_0 (x1 : Int32) (x2 : Int32) (x3 : Int32) (x4 : Int32) (x5 : Int32) (M : eM) : Option (Int32 × eM) := ea_ci (fX11_isAsked x1 x2 x3 M) (fun r2 M3 => if r2 = 0 then (some ((-2 : Int32), M3)) else (if x4 < 0 then (some ((-2 : Int32), M3)) else (ea_ci (fX11_in x5 (0 : Int32) (1 : Int32) M3) (fun r7 M8 => if r7 = 0 then (some ((-2 : Int32), M8)) else (ea_cv (fX11_findFits x1 x2 x3 M8) (fun M11 => if x4 < (M11.1 100 33) then (if x5 = 0 then (ea_ck (ea_ix x4 (ea_len 119)) (some (M11.1 119 x4.toNatClampNeg, M11))) else (ea_ck (ea_ix x4 (ea_len 120)) (some (M11.1 120 x4.toNatClampNeg, M11)))) else (some ((-1 : Int32), M11))))))))
def fX11_pair (x1 : Int32) (x2 : Int32) (x3 : Int32) (x4 : Int32) (x5 : Int32) (M : eM) : Option (Int32 × eM) := fX11_pair_0 x1 x2 x3 x4 x5 M
section SX11_pair
variable {p : Program} {l : Launch} {e : Env} {s : State} {m : MethodId} {args : Array Value} {below : List Frame} {meth : Method} {cd : Code} {E : eE} {ids : List Nat} {res : Int32 × eM}
set_option maxHeartbeats 4000000 in
set_option maxRecDepth 20000 in
theorem wX11_pair_0 (C : ea_C p s m args meth cd cX11_pair 6 (some .int) RX11) (hY : ea_Y ids) : ∀ (x1 : Int32) (x2 : Int32) (x3 : Int32) (x4 : Int32) (x5 : Int32) (M : eM) (H : Heap) (locs : List Loc) (ls : Array Slot), fX11_pair_0 x1 x2 x3 x4 x5 M = some res → ea_w E ids M s H locs → lv_has ls 6 [(0, .ref (E.1 100)), (1, .int x1), (2, .int x2), (3, .int x3), (4, .int x4), (5, .int x5)] → W p l e (ea_rm 6 143) s m args below meth cd H locs 0 0 (MQ below (ea_Qi E ids res) args s 0 0 (ea_Ad E ids)) (F0 m 0 ls []) := by
  intro x1 x2 x3 x4 x5 M H locs ls hf  hw hl
  replace hf := (fX11_pair_0.eq_1 ..).symm.trans hf
  refine lv_aload_n C.1 C.2.1 dX11_pair_0 rfl (lv_at hl 0 rfl) ?_
  refine lv_iload_n C.1 C.2.1 dX11_pair_1 rfl (lv_at hl 1 rfl) ?_
  refine lv_iload_n C.1 C.2.1 dX11_pair_2 rfl (lv_at hl 2 rfl) ?_
  refine lv_iload_n C.1 C.2.1 dX11_pair_3 rfl (lv_at hl 3 rfl) ?_
  obtain ⟨r2, M3, he1, hf⟩ := ea_ci_s hf
  refine ea_runi2 hw (cl_X11_310 C hw (hY 100 11 rfl) (As := [.int x1, .int x2, .int x3]) (rest := []) (mX11_isAsked (l := l) (E := E) (ids := ids) hY he1) (by decide) rfl hl.1 rfl (Nat.le_of_ble_eq_true rfl) dX11_pair_4 ⟨Nat.le_refl _, Nat.le_refl _⟩) (fun H locs hw => ?_)
  refine lv_if_eq (tgt := 25) C.1 C.2.1 dX11_pair_7 (by decide) (fun hc4 => ?_) (fun hc4 => ?_)
  · replace hf := ea_if_t hc4 hf
    refine lv_bipush (v := (-2 : Int32)) C.1 C.2.1 dX11_pair_25 (by decide) ?_
    exact ea_iret C hw hf dX11_pair_27
  · replace hf := ea_if_f hc4 hf
    refine lv_iload C.1 C.2.1 dX11_pair_10 (lv_at hl 4 rfl) ?_
    refine lv_if_lt (tgt := 25) C.1 C.2.1 dX11_pair_12 (by decide) (fun hc5 => ?_) (fun hc5 => ?_)
    · replace hf := ea_if_t hc5 hf
      refine lv_bipush (v := (-2 : Int32)) C.1 C.2.1 dX11_pair_25 (by decide) ?_
      exact ea_iret C hw hf dX11_pair_27
    · replace hf := ea_if_f hc5 hf
      refine lv_iload C.1 C.2.1 dX11_pair_15 (lv_at hl 5 rfl) ?_
      refine lv_iconst (v := 0) C.1 C.2.1 dX11_pair_17 (by decide) ?_
      refine lv_iconst (v := 1) C.1 C.2.1 dX11_pair_18 (by decide) ?_
      obtain ⟨r7, M8, he6, hf⟩ := ea_ci_s hf
      refine ea_runi2 hw (cl_X11_172 C hw (As := [.int x5, .int (0 : Int32), .int (1 : Int32)]) (rest := []) (mX11_in (l := l) (E := E) (ids := ids) hY he6) (by decide) rfl hl.1 rfl (Nat.le_of_ble_eq_true rfl) dX11_pair_19 ⟨Nat.le_refl _, Nat.le_refl _⟩) (fun H locs hw => ?_)
      refine lv_if_ne (tgt := 28) C.1 C.2.1 dX11_pair_22 (by decide) (fun hc9 => ?_) (fun hc9 => ?_)
      · replace hf := ea_if_f hc9 hf
        refine lv_aload_n C.1 C.2.1 dX11_pair_28 rfl (lv_at hl 0 rfl) ?_
        refine lv_iload_n C.1 C.2.1 dX11_pair_29 rfl (lv_at hl 1 rfl) ?_
        refine lv_iload_n C.1 C.2.1 dX11_pair_30 rfl (lv_at hl 2 rfl) ?_
        refine lv_iload_n C.1 C.2.1 dX11_pair_31 rfl (lv_at hl 3 rfl) ?_
        obtain ⟨M11, he10, hf⟩ := ea_cv_s hf
        refine ea_runv hw (cl_X11_313 C hw (hY 100 11 rfl) (As := [.int x1, .int x2, .int x3]) (rest := []) (mX11_findFits (l := l) (E := E) (ids := ids) hY he10) (by decide) rfl hl.1 rfl (Nat.le_of_ble_eq_true rfl) dX11_pair_32 ⟨Nat.le_refl _, Nat.le_refl _⟩) (fun H locs hw => ?_)
        refine lv_iload C.1 C.2.1 dX11_pair_35 (lv_at hl 4 rfl) ?_
        refine lv_aload_n C.1 C.2.1 dX11_pair_37 rfl (lv_at hl 0 rfl) ?_
        refine gf_X11_300 C hw (hY 100 11 rfl) dX11_pair_38 ?_
        refine lv_icmp_lt (tgt := 48) C.1 C.2.1 dX11_pair_41 (by decide) (fun hc12 => ?_) (fun hc12 => ?_)
        · replace hf := ea_if_t hc12 hf
          refine lv_iload C.1 C.2.1 dX11_pair_48 (lv_at hl 5 rfl) ?_
          refine lv_if_ne (tgt := 63) C.1 C.2.1 dX11_pair_50 (by decide) (fun hc13 => ?_) (fun hc13 => ?_)
          · replace hf := ea_if_f hc13 hf
            refine lv_aload_n C.1 C.2.1 dX11_pair_63 rfl (lv_at hl 0 rfl) ?_
            refine gf_X11_74 C hw (hY 100 11 rfl) dX11_pair_64 ?_
            refine W.eq (g2 := F0 m 67 ls [.ref (E.1 120)]) rfl ?_
            refine lv_iload C.1 C.2.1 dX11_pair_67 (lv_at hl 4 rfl) ?_
            obtain ⟨hc14, hf⟩ := ea_ck_s hf
            refine ea_iald C hw (show ea_ok ids 120 20 from ok_11_36 (hY 100 11 rfl)) hc14 dX11_pair_69 ?_
            exact ea_iret C hw hf dX11_pair_70
          · replace hf := ea_if_t hc13 hf
            refine lv_aload_n C.1 C.2.1 dX11_pair_53 rfl (lv_at hl 0 rfl) ?_
            refine gf_X11_71 C hw (hY 100 11 rfl) dX11_pair_54 ?_
            refine W.eq (g2 := F0 m 57 ls [.ref (E.1 119)]) rfl ?_
            refine lv_iload C.1 C.2.1 dX11_pair_57 (lv_at hl 4 rfl) ?_
            obtain ⟨hc15, hf⟩ := ea_ck_s hf
            refine ea_iald C hw (show ea_ok ids 119 20 from ok_11_35 (hY 100 11 rfl)) hc15 dX11_pair_59 ?_
            refine lv_goto (tgt := 70) C.1 C.2.1 dX11_pair_60 (by decide) ?_
            exact ea_iret C hw hf dX11_pair_70
        · replace hf := ea_if_f hc12 hf
          refine lv_iconst (v := (-1 : Int32)) C.1 C.2.1 dX11_pair_44 (by decide) ?_
          refine lv_goto (tgt := 70) C.1 C.2.1 dX11_pair_45 (by decide) ?_
          exact ea_iret C hw hf dX11_pair_70
      · replace hf := ea_if_t hc9 hf
        refine lv_bipush (v := (-2 : Int32)) C.1 C.2.1 dX11_pair_25 (by decide) ?_
        exact ea_iret C hw hf dX11_pair_27
set_option maxHeartbeats 4000000 in
set_option maxRecDepth 20000 in
theorem mX11_pair {l : Launch} {E : eE} {ids : List Nat} (hY : ea_Y ids) {x1 : Int32} {x2 : Int32} {x3 : Int32} {x4 : Int32} {x5 : Int32} {M : eM} {res : Int32 × eM} (hf : fX11_pair x1 x2 x3 x4 x5 M = some res) : ea_Mi l yX11_pair cX11_pair 6 (some .int) 6 143 E ids [.ref (E.1 100), .int x1, .int x2, .int x3, .int x4, .int x5] M res := by
  refine ea_goi (by decide) (Nat.le_of_ble_eq_true rfl) wc_X11_pair ?_
  intro p e s m below meth cd ls C hw hl
  exact wX11_pair_0 C hY _ _ _ _ _ _ _ _ _ hf hw hl
end SX11_pair

def fX11_right_172 (k139 : Int32 → Int32 → Int32 → Int32 → eM → Option (Int32 × eM)) (x2 : Int32) (x6 : Int32) (x9 : Int32) (t0 : Int32) (t1 : Int32) (M : eM) : Option (Int32 × eM) := k139 x2 x6 (t1 + t0) (x9 + (1 : Int32)) M
def fX11_right_139 : Nat → Int32 → Int32 → Int32 → Int32 → eM → Option (Int32 × eM)
  | 0, _, _, _, _, _ => none
  | n + 1, x2, x6, x8, x9, M => if x6 < x9 then (some (x8, M)) else (ea_ck (ea_ix (((754 : Int32) + ((5 : Int32) * x9)) + (1 : Int32)) (ea_len 114)) (if (M.1 114 (((754 : Int32) + ((5 : Int32) * x9)) + (1 : Int32)).toNatClampNeg) = x2 then (fX11_right_172 (fX11_right_139 n) x2 x6 x9 (1 : Int32) x8 M) else (fX11_right_172 (fX11_right_139 n) x2 x6 x9 (0 : Int32) x8 M)))
def fX11_right_0 (x1 : Int32) (x2 : Int32) (x3 : Int32) (x4 : Int32) (x5 : Int32) (M : eM) : Option (Int32 × eM) := ea_ci (fX11_isTelling x1 M) (fun r2 M3 => if r2 = 0 then (some ((-2 : Int32), M3)) else (ea_ci (fX11_in x2 (0 : Int32) ((M3.1 114 (1 : Int32).toNatClampNeg) - (1 : Int32)) M3) (fun r6 M7 => if r6 = 0 then (some ((-2 : Int32), M7)) else (ea_ci (fX11_areColours x3 x4 x5 M7) (fun r10 M11 => if r10 = 0 then (some ((-2 : Int32), M11)) else (ea_lt (M11.1 114 (2 : Int32).toNatClampNeg) (fun y13 => if y13 = (20 : Int32) then (some ((-3 : Int32), M11)) else (ea_lt ((754 : Int32) + ((5 : Int32) * y13)) (fun y16 => ea_ck (ea_ix y16 (ea_len 114)) (ea_ck (ea_ix (y16 + (1 : Int32)) (ea_len 114)) (ea_ck (ea_ix (y16 + (2 : Int32)) (ea_len 114)) (ea_ck (ea_ix (y16 + (3 : Int32)) (ea_len 114)) (ea_ck (ea_ix (y16 + (4 : Int32)) (ea_len 114)) (fX11_right_139 ea_N x2 y13 (0 : Int32) (0 : Int32) (ea_pI (ea_pI (ea_pI (ea_pI (ea_pI (ea_pI (ea_pI M11 114 ((3 : Int32).toNatClampNeg) x1) 114 (y16.toNatClampNeg) x1) 114 ((y16 + (1 : Int32)).toNatClampNeg) x2) 114 ((y16 + (2 : Int32)).toNatClampNeg) x3) 114 ((y16 + (3 : Int32)).toNatClampNeg) x4) 114 ((y16 + (4 : Int32)).toNatClampNeg) x5) 114 ((2 : Int32).toNatClampNeg) (((ea_pI (ea_pI (ea_pI (ea_pI (ea_pI (ea_pI M11 114 ((3 : Int32).toNatClampNeg) x1) 114 (y16.toNatClampNeg) x1) 114 ((y16 + (1 : Int32)).toNatClampNeg) x2) 114 ((y16 + (2 : Int32)).toNatClampNeg) x3) 114 ((y16 + (3 : Int32)).toNatClampNeg) x4) 114 ((y16 + (4 : Int32)).toNatClampNeg) x5).1 114 (2 : Int32).toNatClampNeg) + (1 : Int32)))))))))))))))))
def fX11_right (x1 : Int32) (x2 : Int32) (x3 : Int32) (x4 : Int32) (x5 : Int32) (M : eM) : Option (Int32 × eM) := fX11_right_0 x1 x2 x3 x4 x5 M
section SX11_right
variable {p : Program} {l : Launch} {e : Env} {s : State} {m : MethodId} {args : Array Value} {below : List Frame} {meth : Method} {cd : Code} {E : eE} {ids : List Nat} {res : Int32 × eM}
set_option maxHeartbeats 4000000 in
set_option maxRecDepth 20000 in
theorem wX11_right_172 (C : ea_C p s m args meth cd cX11_right 10 (some .int) RX11) (hY : ea_Y ids) {k139 : Int32 → Int32 → Int32 → Int32 → eM → Option (Int32 × eM)} (hk139 : ∀ (x2 : Int32) (x6 : Int32) (x8 : Int32) (x9 : Int32) (M : eM) (H : Heap) (locs : List Loc) (ls : Array Slot), k139 x2 x6 x8 x9 M = some res → ea_w E ids M s H locs → lv_has ls 10 [(0, .ref (E.1 100)), (2, .int x2), (6, .int x6), (8, .int x8), (9, .int x9)] → W p l e (ea_rm 2 44) s m args below meth cd H locs 0 0 (MQ below (ea_Qi E ids res) args s 0 0 (ea_Ad E ids)) (F0 m 139 ls [])) : ∀ (x2 : Int32) (x6 : Int32) (x9 : Int32) (t0 : Int32) (t1 : Int32) (M : eM) (H : Heap) (locs : List Loc) (ls : Array Slot), fX11_right_172 k139 x2 x6 x9 t0 t1 M = some res → ea_w E ids M s H locs → lv_has ls 10 [(0, .ref (E.1 100)), (2, .int x2), (6, .int x6), (9, .int x9)] → W p l e (ea_rm 2 44) s m args below meth cd H locs 0 0 (MQ below (ea_Qi E ids res) args s 0 0 (ea_Ad E ids)) (F0 m 172 ls [.int t0, .int t1]) := by
  intro x2 x6 x9 t0 t1 M H locs ls hf  hw hl
  replace hf := (fX11_right_172.eq_1 ..).symm.trans hf
  refine lv_iadd C.1 C.2.1 dX11_right_172 ?_
  refine lv_istore (lv' := [(8, .int (t1 + t0)), (0, .ref (E.1 100)), (2, .int x2), (6, .int x6), (9, .int x9)]) C.1 C.2.1 dX11_right_173 hl (by decide) rfl (fun ls hl => ?_)
  refine lv_iinc (v := x9 + (1 : Int32)) (lv' := [(9, .int (x9 + (1 : Int32))), (8, .int (t1 + t0)), (0, .ref (E.1 100)), (2, .int x2), (6, .int x6)]) C.1 C.2.1 dX11_right_175 hl (k := 4) rfl rfl (by decide) rfl (fun ls hl => ?_)
  refine lv_goto (tgt := 139) C.1 C.2.1 dX11_right_178 (by decide) ?_
  exact hk139 _ _ _ _ _ _ _ _ hf hw (lv_sub hl [2, 3, 4, 1, 0] rfl)
set_option maxHeartbeats 4000000 in
set_option maxRecDepth 20000 in
theorem wX11_right_139 (C : ea_C p s m args meth cd cX11_right 10 (some .int) RX11) (hY : ea_Y ids) : ∀ (n : Nat) (x2 : Int32) (x6 : Int32) (x8 : Int32) (x9 : Int32) (M : eM) (H : Heap) (locs : List Loc) (ls : Array Slot), fX11_right_139 n x2 x6 x8 x9 M = some res → ea_w E ids M s H locs → lv_has ls 10 [(0, .ref (E.1 100)), (2, .int x2), (6, .int x6), (8, .int x8), (9, .int x9)] → W p l e (ea_rm 2 44) s m args below meth cd H locs 0 0 (MQ below (ea_Qi E ids res) args s 0 0 (ea_Ad E ids)) (F0 m 139 ls []) := by
  intro n
  induction n with
  | zero => intro x2 x6 x8 x9 M H locs ls hf; cases hf
  | succ n ih =>
    intro x2 x6 x8 x9 M H locs ls hf  hw hl
    replace hf := (fX11_right_139.eq_2 ..).symm.trans hf
    refine lv_iload C.1 C.2.1 dX11_right_139 (lv_at hl 4 rfl) ?_
    refine lv_iload C.1 C.2.1 dX11_right_141 (lv_at hl 2 rfl) ?_
    refine lv_icmp_gt (tgt := 181) C.1 C.2.1 dX11_right_143 (by decide) (fun hc1 => ?_) (fun hc1 => ?_)
    · replace hf := ea_if_t hc1 hf
      refine lv_iload C.1 C.2.1 dX11_right_181 (lv_at hl 3 rfl) ?_
      exact ea_iret C hw hf dX11_right_183
    · replace hf := ea_if_f hc1 hf
      refine lv_iload C.1 C.2.1 dX11_right_146 (lv_at hl 3 rfl) ?_
      refine lv_aload_n C.1 C.2.1 dX11_right_148 rfl (lv_at hl 0 rfl) ?_
      refine gf_X11_55 C hw (hY 100 11 rfl) dX11_right_149 ?_
      refine W.eq (g2 := F0 m 152 ls [.ref (E.1 114), .int x8]) rfl ?_
      refine lv_sipush (v := 754) C.1 C.2.1 dX11_right_152 (by decide) ?_
      refine lv_iconst (v := 5) C.1 C.2.1 dX11_right_155 (by decide) ?_
      refine lv_iload C.1 C.2.1 dX11_right_156 (lv_at hl 4 rfl) ?_
      refine lv_imul C.1 C.2.1 dX11_right_158 ?_
      refine lv_iadd C.1 C.2.1 dX11_right_159 ?_
      refine lv_iconst (v := 1) C.1 C.2.1 dX11_right_160 (by decide) ?_
      refine lv_iadd C.1 C.2.1 dX11_right_161 ?_
      obtain ⟨hc2, hf⟩ := ea_ck_s hf
      refine ea_iald C hw (show ea_ok ids 114 20 from ok_11_27 (hY 100 11 rfl)) hc2 dX11_right_162 ?_
      refine lv_iload_n C.1 C.2.1 dX11_right_163 rfl (lv_at hl 1 rfl) ?_
      refine lv_icmp_ne (tgt := 171) C.1 C.2.1 dX11_right_164 (by decide) (fun hc3 => ?_) (fun hc3 => ?_)
      · replace hf := ea_if_f hc3 hf
        refine lv_iconst (v := 0) C.1 C.2.1 dX11_right_171 (by decide) ?_
        exact wX11_right_172 C hY ih _ _ _ _ _ _ _ _ _ hf hw (lv_sub hl [0, 1, 2, 4] rfl)
      · replace hf := ea_if_t hc3 hf
        refine lv_iconst (v := 1) C.1 C.2.1 dX11_right_167 (by decide) ?_
        refine lv_goto (tgt := 172) C.1 C.2.1 dX11_right_168 (by decide) ?_
        exact wX11_right_172 C hY ih _ _ _ _ _ _ _ _ _ hf hw (lv_sub hl [0, 1, 2, 4] rfl)
set_option maxHeartbeats 4000000 in
set_option maxRecDepth 20000 in
theorem wX11_right_0 (C : ea_C p s m args meth cd cX11_right 10 (some .int) RX11) (hY : ea_Y ids) : ∀ (x1 : Int32) (x2 : Int32) (x3 : Int32) (x4 : Int32) (x5 : Int32) (M : eM) (H : Heap) (locs : List Loc) (ls : Array Slot), fX11_right_0 x1 x2 x3 x4 x5 M = some res → ea_w E ids M s H locs → lv_has ls 10 [(0, .ref (E.1 100)), (1, .int x1), (2, .int x2), (3, .int x3), (4, .int x4), (5, .int x5)] → W p l e (ea_rm 2 44) s m args below meth cd H locs 0 0 (MQ below (ea_Qi E ids res) args s 0 0 (ea_Ad E ids)) (F0 m 0 ls []) := by
  intro x1 x2 x3 x4 x5 M H locs ls hf  hw hl
  replace hf := (fX11_right_0.eq_1 ..).symm.trans hf
  refine lv_aload_n C.1 C.2.1 dX11_right_0 rfl (lv_at hl 0 rfl) ?_
  refine lv_iload_n C.1 C.2.1 dX11_right_1 rfl (lv_at hl 1 rfl) ?_
  obtain ⟨r2, M3, he1, hf⟩ := ea_ci_s hf
  refine ea_runi2 hw (cl_X11_261 C hw (hY 100 11 rfl) (As := [.int x1]) (rest := []) (mX11_isTelling (l := l) (E := E) (ids := ids) hY he1) (by decide) rfl hl.1 rfl (Nat.le_of_ble_eq_true rfl) dX11_right_2 ⟨Nat.le_refl _, Nat.le_refl _⟩) (fun H locs hw => ?_)
  refine lv_if_eq (tgt := 35) C.1 C.2.1 dX11_right_5 (by decide) (fun hc4 => ?_) (fun hc4 => ?_)
  · replace hf := ea_if_t hc4 hf
    refine lv_bipush (v := (-2 : Int32)) C.1 C.2.1 dX11_right_35 (by decide) ?_
    exact ea_iret C hw hf dX11_right_37
  · replace hf := ea_if_f hc4 hf
    refine lv_iload_n C.1 C.2.1 dX11_right_8 rfl (lv_at hl 2 rfl) ?_
    refine lv_iconst (v := 0) C.1 C.2.1 dX11_right_9 (by decide) ?_
    refine lv_aload_n C.1 C.2.1 dX11_right_10 rfl (lv_at hl 0 rfl) ?_
    refine gf_X11_55 C hw (hY 100 11 rfl) dX11_right_11 ?_
    refine W.eq (g2 := F0 m 14 ls [.ref (E.1 114), .int (0 : Int32), .int x2]) rfl ?_
    refine lv_iconst (v := 1) C.1 C.2.1 dX11_right_14 (by decide) ?_
    refine ea_iald C hw (show ea_ok ids 114 20 from ok_11_27 (hY 100 11 rfl)) (by decide) dX11_right_15 ?_
    refine lv_iconst (v := 1) C.1 C.2.1 dX11_right_16 (by decide) ?_
    refine lv_isub C.1 C.2.1 dX11_right_17 ?_
    obtain ⟨r6, M7, he5, hf⟩ := ea_ci_s hf
    refine ea_runi2 hw (cl_X11_172 C hw (As := [.int x2, .int (0 : Int32), .int ((M3.1 114 (1 : Int32).toNatClampNeg) - (1 : Int32))]) (rest := []) (mX11_in (l := l) (E := E) (ids := ids) hY he5) (by decide) rfl hl.1 rfl (Nat.le_of_ble_eq_true rfl) dX11_right_18 ⟨Nat.le_refl _, Nat.le_refl _⟩) (fun H locs hw => ?_)
    refine lv_if_eq (tgt := 35) C.1 C.2.1 dX11_right_21 (by decide) (fun hc8 => ?_) (fun hc8 => ?_)
    · replace hf := ea_if_t hc8 hf
      refine lv_bipush (v := (-2 : Int32)) C.1 C.2.1 dX11_right_35 (by decide) ?_
      exact ea_iret C hw hf dX11_right_37
    · replace hf := ea_if_f hc8 hf
      refine lv_iload_n C.1 C.2.1 dX11_right_24 rfl (lv_at hl 3 rfl) ?_
      refine lv_iload C.1 C.2.1 dX11_right_25 (lv_at hl 4 rfl) ?_
      refine lv_iload C.1 C.2.1 dX11_right_27 (lv_at hl 5 rfl) ?_
      obtain ⟨r10, M11, he9, hf⟩ := ea_ci_s hf
      refine ea_runi2 hw (cl_X11_267 C hw (As := [.int x3, .int x4, .int x5]) (rest := []) (mX11_areColours (l := l) (E := E) (ids := ids) hY he9) (by decide) rfl hl.1 rfl (Nat.le_of_ble_eq_true rfl) dX11_right_29 ⟨Nat.le_refl _, Nat.le_refl _⟩) (fun H locs hw => ?_)
      refine lv_if_ne (tgt := 38) C.1 C.2.1 dX11_right_32 (by decide) (fun hc12 => ?_) (fun hc12 => ?_)
      · replace hf := ea_if_f hc12 hf
        refine lv_aload_n C.1 C.2.1 dX11_right_38 rfl (lv_at hl 0 rfl) ?_
        refine gf_X11_55 C hw (hY 100 11 rfl) dX11_right_39 ?_
        refine W.eq (g2 := F0 m 42 ls [.ref (E.1 114)]) rfl ?_
        refine lv_iconst (v := 2) C.1 C.2.1 dX11_right_42 (by decide) ?_
        refine ea_iald C hw (show ea_ok ids 114 20 from ok_11_27 (hY 100 11 rfl)) (by decide) dX11_right_43 ?_
        obtain ⟨y13, ey14, hf⟩ := ea_lt_s hf
        refine ea_topi ey14 ?_
        refine lv_istore (lv' := [(6, .int y13), (0, .ref (E.1 100)), (1, .int x1), (2, .int x2), (3, .int x3), (4, .int x4), (5, .int x5)]) C.1 C.2.1 dX11_right_44 hl (by decide) rfl (fun ls hl => ?_)
        refine lv_iload C.1 C.2.1 dX11_right_46 (lv_at hl 0 rfl) ?_
        refine lv_bipush (v := 20) C.1 C.2.1 dX11_right_48 (by decide) ?_
        refine lv_icmp_ne (tgt := 56) C.1 C.2.1 dX11_right_50 (by decide) (fun hc15 => ?_) (fun hc15 => ?_)
        · replace hf := ea_if_f hc15 hf
          refine lv_sipush (v := 754) C.1 C.2.1 dX11_right_56 (by decide) ?_
          refine lv_iconst (v := 5) C.1 C.2.1 dX11_right_59 (by decide) ?_
          refine lv_iload C.1 C.2.1 dX11_right_60 (lv_at hl 0 rfl) ?_
          refine lv_imul C.1 C.2.1 dX11_right_62 ?_
          refine lv_iadd C.1 C.2.1 dX11_right_63 ?_
          obtain ⟨y16, ey17, hf⟩ := ea_lt_s hf
          refine ea_topi ey17 ?_
          refine lv_istore (lv' := [(7, .int y16), (6, .int y13), (0, .ref (E.1 100)), (1, .int x1), (2, .int x2), (3, .int x3), (4, .int x4), (5, .int x5)]) C.1 C.2.1 dX11_right_64 hl (by decide) rfl (fun ls hl => ?_)
          refine lv_aload_n C.1 C.2.1 dX11_right_66 rfl (lv_at hl 2 rfl) ?_
          refine gf_X11_55 C hw (hY 100 11 rfl) dX11_right_67 ?_
          refine W.eq (g2 := F0 m 70 ls [.ref (E.1 114)]) rfl ?_
          refine lv_iconst (v := 3) C.1 C.2.1 dX11_right_70 (by decide) ?_
          refine lv_iload_n C.1 C.2.1 dX11_right_71 rfl (lv_at hl 3 rfl) ?_
          refine ea_iast C hw (show ea_ok ids 114 20 from ok_11_27 (hY 100 11 rfl)) (by decide) dX11_right_72 (fun H locs hw => ?_)
          refine lv_aload_n C.1 C.2.1 dX11_right_73 rfl (lv_at hl 2 rfl) ?_
          refine gf_X11_55 C hw (hY 100 11 rfl) dX11_right_74 ?_
          refine W.eq (g2 := F0 m 77 ls [.ref (E.1 114)]) rfl ?_
          refine lv_iload C.1 C.2.1 dX11_right_77 (lv_at hl 0 rfl) ?_
          refine lv_iload_n C.1 C.2.1 dX11_right_79 rfl (lv_at hl 3 rfl) ?_
          obtain ⟨hc18, hf⟩ := ea_ck_s hf
          refine ea_iast C hw (show ea_ok ids 114 20 from ok_11_27 (hY 100 11 rfl)) hc18 dX11_right_80 (fun H locs hw => ?_)
          refine lv_aload_n C.1 C.2.1 dX11_right_81 rfl (lv_at hl 2 rfl) ?_
          refine gf_X11_55 C hw (hY 100 11 rfl) dX11_right_82 ?_
          refine W.eq (g2 := F0 m 85 ls [.ref (E.1 114)]) rfl ?_
          refine lv_iload C.1 C.2.1 dX11_right_85 (lv_at hl 0 rfl) ?_
          refine lv_iconst (v := 1) C.1 C.2.1 dX11_right_87 (by decide) ?_
          refine lv_iadd C.1 C.2.1 dX11_right_88 ?_
          refine lv_iload_n C.1 C.2.1 dX11_right_89 rfl (lv_at hl 4 rfl) ?_
          obtain ⟨hc19, hf⟩ := ea_ck_s hf
          refine ea_iast C hw (show ea_ok ids 114 20 from ok_11_27 (hY 100 11 rfl)) hc19 dX11_right_90 (fun H locs hw => ?_)
          refine lv_aload_n C.1 C.2.1 dX11_right_91 rfl (lv_at hl 2 rfl) ?_
          refine gf_X11_55 C hw (hY 100 11 rfl) dX11_right_92 ?_
          refine W.eq (g2 := F0 m 95 ls [.ref (E.1 114)]) rfl ?_
          refine lv_iload C.1 C.2.1 dX11_right_95 (lv_at hl 0 rfl) ?_
          refine lv_iconst (v := 2) C.1 C.2.1 dX11_right_97 (by decide) ?_
          refine lv_iadd C.1 C.2.1 dX11_right_98 ?_
          refine lv_iload_n C.1 C.2.1 dX11_right_99 rfl (lv_at hl 5 rfl) ?_
          obtain ⟨hc20, hf⟩ := ea_ck_s hf
          refine ea_iast C hw (show ea_ok ids 114 20 from ok_11_27 (hY 100 11 rfl)) hc20 dX11_right_100 (fun H locs hw => ?_)
          refine lv_aload_n C.1 C.2.1 dX11_right_101 rfl (lv_at hl 2 rfl) ?_
          refine gf_X11_55 C hw (hY 100 11 rfl) dX11_right_102 ?_
          refine W.eq (g2 := F0 m 105 ls [.ref (E.1 114)]) rfl ?_
          refine lv_iload C.1 C.2.1 dX11_right_105 (lv_at hl 0 rfl) ?_
          refine lv_iconst (v := 3) C.1 C.2.1 dX11_right_107 (by decide) ?_
          refine lv_iadd C.1 C.2.1 dX11_right_108 ?_
          refine lv_iload C.1 C.2.1 dX11_right_109 (lv_at hl 6 rfl) ?_
          obtain ⟨hc21, hf⟩ := ea_ck_s hf
          refine ea_iast C hw (show ea_ok ids 114 20 from ok_11_27 (hY 100 11 rfl)) hc21 dX11_right_111 (fun H locs hw => ?_)
          refine lv_aload_n C.1 C.2.1 dX11_right_112 rfl (lv_at hl 2 rfl) ?_
          refine gf_X11_55 C hw (hY 100 11 rfl) dX11_right_113 ?_
          refine W.eq (g2 := F0 m 116 ls [.ref (E.1 114)]) rfl ?_
          refine lv_iload C.1 C.2.1 dX11_right_116 (lv_at hl 0 rfl) ?_
          refine lv_iconst (v := 4) C.1 C.2.1 dX11_right_118 (by decide) ?_
          refine lv_iadd C.1 C.2.1 dX11_right_119 ?_
          refine lv_iload C.1 C.2.1 dX11_right_120 (lv_at hl 7 rfl) ?_
          obtain ⟨hc22, hf⟩ := ea_ck_s hf
          refine ea_iast C hw (show ea_ok ids 114 20 from ok_11_27 (hY 100 11 rfl)) hc22 dX11_right_122 (fun H locs hw => ?_)
          refine lv_aload_n C.1 C.2.1 dX11_right_123 rfl (lv_at hl 2 rfl) ?_
          refine gf_X11_55 C hw (hY 100 11 rfl) dX11_right_124 ?_
          refine W.eq (g2 := F0 m 127 ls [.ref (E.1 114)]) rfl ?_
          refine lv_iconst (v := 2) C.1 C.2.1 dX11_right_127 (by decide) ?_
          refine lv_dup2_11 C.1 C.2.1 dX11_right_128 rfl rfl ?_
          refine ea_iald C hw (show ea_ok ids 114 20 from ok_11_27 (hY 100 11 rfl)) (by decide) dX11_right_129 ?_
          refine lv_iconst (v := 1) C.1 C.2.1 dX11_right_130 (by decide) ?_
          refine lv_iadd C.1 C.2.1 dX11_right_131 ?_
          refine ea_iast C hw (show ea_ok ids 114 20 from ok_11_27 (hY 100 11 rfl)) (by decide) dX11_right_132 (fun H locs hw => ?_)
          refine lv_iconst (v := 0) C.1 C.2.1 dX11_right_133 (by decide) ?_
          refine lv_istore (lv' := [(8, .int (0 : Int32)), (7, .int y16), (6, .int y13), (0, .ref (E.1 100)), (1, .int x1), (2, .int x2), (3, .int x3), (4, .int x4), (5, .int x5)]) C.1 C.2.1 dX11_right_134 hl (by decide) rfl (fun ls hl => ?_)
          refine lv_iconst (v := 0) C.1 C.2.1 dX11_right_136 (by decide) ?_
          refine lv_istore (lv' := [(9, .int (0 : Int32)), (8, .int (0 : Int32)), (7, .int y16), (6, .int y13), (0, .ref (E.1 100)), (1, .int x1), (2, .int x2), (3, .int x3), (4, .int x4), (5, .int x5)]) C.1 C.2.1 dX11_right_137 hl (by decide) rfl (fun ls hl => ?_)
          exact wX11_right_139 C hY ea_N _ _ _ _ _ _ _ _ hf hw (lv_sub hl [4, 6, 3, 1, 0] rfl)
        · replace hf := ea_if_t hc15 hf
          refine lv_bipush (v := (-3 : Int32)) C.1 C.2.1 dX11_right_53 (by decide) ?_
          exact ea_iret C hw hf dX11_right_55
      · replace hf := ea_if_t hc12 hf
        refine lv_bipush (v := (-2 : Int32)) C.1 C.2.1 dX11_right_35 (by decide) ?_
        exact ea_iret C hw hf dX11_right_37
set_option maxHeartbeats 4000000 in
set_option maxRecDepth 20000 in
theorem mX11_right {l : Launch} {E : eE} {ids : List Nat} (hY : ea_Y ids) {x1 : Int32} {x2 : Int32} {x3 : Int32} {x4 : Int32} {x5 : Int32} {M : eM} {res : Int32 × eM} (hf : fX11_right x1 x2 x3 x4 x5 M = some res) : ea_Mi l yX11_right cX11_right 10 (some .int) 2 44 E ids [.ref (E.1 100), .int x1, .int x2, .int x3, .int x4, .int x5] M res := by
  refine ea_goi (by decide) (Nat.le_of_ble_eq_true rfl) wc_X11_right ?_
  intro p e s m below meth cd ls C hw hl
  exact wX11_right_0 C hY _ _ _ _ _ _ _ _ _ hf hw hl
end SX11_right

def fX11_shows_0 (x1 : Int32) (x2 : Int32) (x3 : Int32) (x4 : Int32) (M : eM) : Option (Int32 × eM) := ea_ci (fX11_isCell x1 M) (fun r2 M3 => if r2 = 0 then (some ((-2 : Int32), M3)) else (ea_ci (fX11_in x2 (0 : Int32) (1 : Int32) M3) (fun r6 M7 => if r6 = 0 then (some ((-2 : Int32), M7)) else (ea_ci (fX11_isStep x3 M7) (fun r10 M11 => if r10 = 0 then (some ((-2 : Int32), M11)) else (ea_ci (fX11_isColour x4 M11) (fun r14 M15 => if r14 = 0 then (some ((-2 : Int32), M15)) else (ea_ci (fX11_lookAt x1 x2 x3 M15) (fun r18 M19 => if 0 ≤ r18 then (ea_ck (ea_ix (r18 + (6 : Int32)) (ea_len 114)) (if (M19.1 114 (r18 + (6 : Int32)).toNatClampNeg) = (1 : Int32) then (some ((-5 : Int32), M19)) else (ea_ck (ea_ix ((r18 + (3 : Int32)) + x4) (ea_len 114)) (some (M19.1 114 ((r18 + (3 : Int32)) + x4).toNatClampNeg, M19))))) else (some ((-1 : Int32), M19)))))))))))
def fX11_shows (x1 : Int32) (x2 : Int32) (x3 : Int32) (x4 : Int32) (M : eM) : Option (Int32 × eM) := fX11_shows_0 x1 x2 x3 x4 M
section SX11_shows
variable {p : Program} {l : Launch} {e : Env} {s : State} {m : MethodId} {args : Array Value} {below : List Frame} {meth : Method} {cd : Code} {E : eE} {ids : List Nat} {res : Int32 × eM}
set_option maxHeartbeats 4000000 in
set_option maxRecDepth 20000 in
theorem wX11_shows_0 (C : ea_C p s m args meth cd cX11_shows 6 (some .int) RX11) (hY : ea_Y ids) : ∀ (x1 : Int32) (x2 : Int32) (x3 : Int32) (x4 : Int32) (M : eM) (H : Heap) (locs : List Loc) (ls : Array Slot), fX11_shows_0 x1 x2 x3 x4 M = some res → ea_w E ids M s H locs → lv_has ls 6 [(0, .ref (E.1 100)), (1, .int x1), (2, .int x2), (3, .int x3), (4, .int x4)] → W p l e (ea_rm 2 43) s m args below meth cd H locs 0 0 (MQ below (ea_Qi E ids res) args s 0 0 (ea_Ad E ids)) (F0 m 0 ls []) := by
  intro x1 x2 x3 x4 M H locs ls hf  hw hl
  replace hf := (fX11_shows_0.eq_1 ..).symm.trans hf
  refine lv_aload_n C.1 C.2.1 dX11_shows_0 rfl (lv_at hl 0 rfl) ?_
  refine lv_iload_n C.1 C.2.1 dX11_shows_1 rfl (lv_at hl 1 rfl) ?_
  obtain ⟨r2, M3, he1, hf⟩ := ea_ci_s hf
  refine ea_runi2 hw (cl_X11_264 C hw (hY 100 11 rfl) (As := [.int x1]) (rest := []) (mX11_isCell (l := l) (E := E) (ids := ids) hY he1) (by decide) rfl hl.1 rfl (Nat.le_of_ble_eq_true rfl) dX11_shows_2 ⟨Nat.le_refl _, Nat.le_refl _⟩) (fun H locs hw => ?_)
  refine lv_if_eq (tgt := 32) C.1 C.2.1 dX11_shows_5 (by decide) (fun hc4 => ?_) (fun hc4 => ?_)
  · replace hf := ea_if_t hc4 hf
    refine lv_bipush (v := (-2 : Int32)) C.1 C.2.1 dX11_shows_32 (by decide) ?_
    exact ea_iret C hw hf dX11_shows_34
  · replace hf := ea_if_f hc4 hf
    refine lv_iload_n C.1 C.2.1 dX11_shows_8 rfl (lv_at hl 2 rfl) ?_
    refine lv_iconst (v := 0) C.1 C.2.1 dX11_shows_9 (by decide) ?_
    refine lv_iconst (v := 1) C.1 C.2.1 dX11_shows_10 (by decide) ?_
    obtain ⟨r6, M7, he5, hf⟩ := ea_ci_s hf
    refine ea_runi2 hw (cl_X11_172 C hw (As := [.int x2, .int (0 : Int32), .int (1 : Int32)]) (rest := []) (mX11_in (l := l) (E := E) (ids := ids) hY he5) (by decide) rfl hl.1 rfl (Nat.le_of_ble_eq_true rfl) dX11_shows_11 ⟨Nat.le_refl _, Nat.le_refl _⟩) (fun H locs hw => ?_)
    refine lv_if_eq (tgt := 32) C.1 C.2.1 dX11_shows_14 (by decide) (fun hc8 => ?_) (fun hc8 => ?_)
    · replace hf := ea_if_t hc8 hf
      refine lv_bipush (v := (-2 : Int32)) C.1 C.2.1 dX11_shows_32 (by decide) ?_
      exact ea_iret C hw hf dX11_shows_34
    · replace hf := ea_if_f hc8 hf
      refine lv_iload_n C.1 C.2.1 dX11_shows_17 rfl (lv_at hl 3 rfl) ?_
      obtain ⟨r10, M11, he9, hf⟩ := ea_ci_s hf
      refine ea_runi2 hw (cl_X11_274 C hw (As := [.int x3]) (rest := []) (mX11_isStep (l := l) (E := E) (ids := ids) hY he9) (by decide) rfl hl.1 rfl (Nat.le_of_ble_eq_true rfl) dX11_shows_18 ⟨Nat.le_refl _, Nat.le_refl _⟩) (fun H locs hw => ?_)
      refine lv_if_eq (tgt := 32) C.1 C.2.1 dX11_shows_21 (by decide) (fun hc12 => ?_) (fun hc12 => ?_)
      · replace hf := ea_if_t hc12 hf
        refine lv_bipush (v := (-2 : Int32)) C.1 C.2.1 dX11_shows_32 (by decide) ?_
        exact ea_iret C hw hf dX11_shows_34
      · replace hf := ea_if_f hc12 hf
        refine lv_iload C.1 C.2.1 dX11_shows_24 (lv_at hl 4 rfl) ?_
        obtain ⟨r14, M15, he13, hf⟩ := ea_ci_s hf
        refine ea_runi2 hw (cl_X11_254 C hw (As := [.int x4]) (rest := []) (mX11_isColour (l := l) (E := E) (ids := ids) hY he13) (by decide) rfl hl.1 rfl (Nat.le_of_ble_eq_true rfl) dX11_shows_26 ⟨Nat.le_refl _, Nat.le_refl _⟩) (fun H locs hw => ?_)
        refine lv_if_ne (tgt := 35) C.1 C.2.1 dX11_shows_29 (by decide) (fun hc16 => ?_) (fun hc16 => ?_)
        · replace hf := ea_if_f hc16 hf
          refine lv_aload_n C.1 C.2.1 dX11_shows_35 rfl (lv_at hl 0 rfl) ?_
          refine lv_iload_n C.1 C.2.1 dX11_shows_36 rfl (lv_at hl 1 rfl) ?_
          refine lv_iload_n C.1 C.2.1 dX11_shows_37 rfl (lv_at hl 2 rfl) ?_
          refine lv_iload_n C.1 C.2.1 dX11_shows_38 rfl (lv_at hl 3 rfl) ?_
          obtain ⟨r18, M19, he17, hf⟩ := ea_ci_s hf
          refine ea_runi2 hw (cl_X11_277 C hw (hY 100 11 rfl) (As := [.int x1, .int x2, .int x3]) (rest := []) (mX11_lookAt (l := l) (E := E) (ids := ids) hY he17) (by decide) rfl hl.1 rfl (Nat.le_of_ble_eq_true rfl) dX11_shows_39 ⟨Nat.le_refl _, Nat.le_refl _⟩) (fun H locs hw => ?_)
          refine lv_istore (lv' := [(5, .int r18), (0, .ref (E.1 100)), (1, .int x1), (2, .int x2), (3, .int x3), (4, .int x4)]) C.1 C.2.1 dX11_shows_42 hl (by decide) rfl (fun ls hl => ?_)
          refine lv_iload C.1 C.2.1 dX11_shows_44 (lv_at hl 0 rfl) ?_
          refine lv_if_ge (tgt := 53) C.1 C.2.1 dX11_shows_46 (by decide) (fun hc20 => ?_) (fun hc20 => ?_)
          · replace hf := ea_if_t hc20 hf
            refine lv_aload_n C.1 C.2.1 dX11_shows_53 rfl (lv_at hl 1 rfl) ?_
            refine gf_X11_55 C hw (hY 100 11 rfl) dX11_shows_54 ?_
            refine W.eq (g2 := F0 m 57 ls [.ref (E.1 114)]) rfl ?_
            refine lv_iload C.1 C.2.1 dX11_shows_57 (lv_at hl 0 rfl) ?_
            refine lv_bipush (v := 6) C.1 C.2.1 dX11_shows_59 (by decide) ?_
            refine lv_iadd C.1 C.2.1 dX11_shows_61 ?_
            obtain ⟨hc21, hf⟩ := ea_ck_s hf
            refine ea_iald C hw (show ea_ok ids 114 20 from ok_11_27 (hY 100 11 rfl)) hc21 dX11_shows_62 ?_
            refine lv_iconst (v := 1) C.1 C.2.1 dX11_shows_63 (by decide) ?_
            refine lv_icmp_ne (tgt := 72) C.1 C.2.1 dX11_shows_64 (by decide) (fun hc22 => ?_) (fun hc22 => ?_)
            · replace hf := ea_if_f hc22 hf
              refine lv_aload_n C.1 C.2.1 dX11_shows_72 rfl (lv_at hl 1 rfl) ?_
              refine gf_X11_55 C hw (hY 100 11 rfl) dX11_shows_73 ?_
              refine W.eq (g2 := F0 m 76 ls [.ref (E.1 114)]) rfl ?_
              refine lv_iload C.1 C.2.1 dX11_shows_76 (lv_at hl 0 rfl) ?_
              refine lv_iconst (v := 3) C.1 C.2.1 dX11_shows_78 (by decide) ?_
              refine lv_iadd C.1 C.2.1 dX11_shows_79 ?_
              refine lv_iload C.1 C.2.1 dX11_shows_80 (lv_at hl 5 rfl) ?_
              refine lv_iadd C.1 C.2.1 dX11_shows_82 ?_
              obtain ⟨hc23, hf⟩ := ea_ck_s hf
              refine ea_iald C hw (show ea_ok ids 114 20 from ok_11_27 (hY 100 11 rfl)) hc23 dX11_shows_83 ?_
              exact ea_iret C hw hf dX11_shows_84
            · replace hf := ea_if_t hc22 hf
              refine lv_bipush (v := (-5 : Int32)) C.1 C.2.1 dX11_shows_67 (by decide) ?_
              refine lv_goto (tgt := 84) C.1 C.2.1 dX11_shows_69 (by decide) ?_
              exact ea_iret C hw hf dX11_shows_84
          · replace hf := ea_if_f hc20 hf
            refine lv_iconst (v := (-1 : Int32)) C.1 C.2.1 dX11_shows_49 (by decide) ?_
            refine lv_goto (tgt := 84) C.1 C.2.1 dX11_shows_50 (by decide) ?_
            exact ea_iret C hw hf dX11_shows_84
        · replace hf := ea_if_t hc16 hf
          refine lv_bipush (v := (-2 : Int32)) C.1 C.2.1 dX11_shows_32 (by decide) ?_
          exact ea_iret C hw hf dX11_shows_34
set_option maxHeartbeats 4000000 in
set_option maxRecDepth 20000 in
theorem mX11_shows {l : Launch} {E : eE} {ids : List Nat} (hY : ea_Y ids) {x1 : Int32} {x2 : Int32} {x3 : Int32} {x4 : Int32} {M : eM} {res : Int32 × eM} (hf : fX11_shows x1 x2 x3 x4 M = some res) : ea_Mi l yX11_shows cX11_shows 6 (some .int) 2 43 E ids [.ref (E.1 100), .int x1, .int x2, .int x3, .int x4] M res := by
  refine ea_goi (by decide) (Nat.le_of_ble_eq_true rfl) wc_X11_shows ?_
  intro p e s m below meth cd ls C hw hl
  exact wX11_shows_0 C hY _ _ _ _ _ _ _ _ hf hw hl
end SX11_shows

def fX11_stories_83 (k30 : Int32 → Int32 → Int32 → Int32 → Int32 → eM → Option (Int32 × eM)) (x1 : Int32) (x2 : Int32) (x3 : Int32) (x4 : Int32) (x5 : Int32) (M : eM) : Option (Int32 × eM) := k30 x1 x2 x3 x4 (x5 + (1 : Int32)) M
def fX11_stories_81 (k30 : Int32 → Int32 → Int32 → Int32 → Int32 → eM → Option (Int32 × eM)) (x1 : Int32) (x2 : Int32) (x3 : Int32) (x5 : Int32) (t0 : Int32) (M : eM) : Option (Int32 × eM) := fX11_stories_83 k30 x1 x2 x3 t0 x5 M
def fX11_stories_30 (k89 : Int32 → Int32 → Int32 → Int32 → eM → Option (Int32 × eM)) : Nat → Int32 → Int32 → Int32 → Int32 → Int32 → eM → Option (Int32 × eM)
  | 0, _, _, _, _, _, _ => none
  | n + 1, x1, x2, x3, x4, x5, M => ea_ci (fX11_cells M) (fun r2 M3 => if r2 ≤ x5 then (k89 x1 x2 x3 x4 M3) else (if x4 = 0 then (k89 x1 x2 x3 x4 M3) else (ea_cv (fX11_findWords x5 x1 M3) (fun M7 => if (M7.1 100 29) = 0 then (fX11_stories_83 (fX11_stories_30 k89 n) x1 x2 x3 x4 x5 M7) else (ea_cv (fX11_findFits x5 x3 x1 M7) (fun M10 => if (M10.1 100 33) ≤ 0 then (fX11_stories_81 (fX11_stories_30 k89 n) x1 x2 x3 x5 (0 : Int32) M10) else (fX11_stories_81 (fX11_stories_30 k89 n) x1 x2 x3 x5 (1 : Int32) M10)))))))
def fX11_stories_102 (k14 : Int32 → Int32 → Int32 → eM → Option (Int32 × eM)) (x1 : Int32) (x3 : Int32) (t0 : Int32) (t1 : Int32) (M : eM) : Option (Int32 × eM) := k14 x1 (t1 ||| t0) (x3 + (1 : Int32)) M
def fX11_stories_89 (k14 : Int32 → Int32 → Int32 → eM → Option (Int32 × eM)) (x1 : Int32) (x2 : Int32) (x3 : Int32) (x4 : Int32) (M : eM) : Option (Int32 × eM) := if x4 = 0 then (fX11_stories_102 k14 x1 x3 (0 : Int32) x2 M) else (fX11_stories_102 k14 x1 x3 ((1 : Int32) <<< (x3 &&& 31)) x2 M)
def fX11_stories_14 : Nat → Int32 → Int32 → Int32 → eM → Option (Int32 × eM)
  | 0, _, _, _, _ => none
  | n + 1, x1, x2, x3, M => if (M.1 102 (5 : Int32).toNatClampNeg) ≤ x3 then (some (x2, M)) else (fX11_stories_30 (fX11_stories_89 (fX11_stories_14 n)) ea_N x1 x2 x3 (1 : Int32) (0 : Int32) M)
def fX11_stories_0 (x1 : Int32) (M : eM) : Option (Int32 × eM) := ea_ci (fX11_isStep x1 M) (fun r2 M3 => if r2 = 0 then (some ((-2 : Int32), M3)) else (fX11_stories_14 ea_N x1 (0 : Int32) (0 : Int32) M3))
def fX11_stories (x1 : Int32) (M : eM) : Option (Int32 × eM) := fX11_stories_0 x1 M
section SX11_stories
variable {p : Program} {l : Launch} {e : Env} {s : State} {m : MethodId} {args : Array Value} {below : List Frame} {meth : Method} {cd : Code} {E : eE} {ids : List Nat} {res : Int32 × eM}
set_option maxHeartbeats 4000000 in
set_option maxRecDepth 20000 in
theorem wX11_stories_83 (C : ea_C p s m args meth cd cX11_stories 6 (some .int) RX11) (hY : ea_Y ids) {k30 : Int32 → Int32 → Int32 → Int32 → Int32 → eM → Option (Int32 × eM)} (hk30 : ∀ (x1 : Int32) (x2 : Int32) (x3 : Int32) (x4 : Int32) (x5 : Int32) (M : eM) (H : Heap) (locs : List Loc) (ls : Array Slot), k30 x1 x2 x3 x4 x5 M = some res → ea_w E ids M s H locs → lv_has ls 6 [(0, .ref (E.1 100)), (1, .int x1), (2, .int x2), (3, .int x3), (4, .int x4), (5, .int x5)] → W p l e (ea_rm 6 143) s m args below meth cd H locs 0 0 (MQ below (ea_Qi E ids res) args s 0 0 (ea_Ad E ids)) (F0 m 30 ls [])) : ∀ (x1 : Int32) (x2 : Int32) (x3 : Int32) (x4 : Int32) (x5 : Int32) (M : eM) (H : Heap) (locs : List Loc) (ls : Array Slot), fX11_stories_83 k30 x1 x2 x3 x4 x5 M = some res → ea_w E ids M s H locs → lv_has ls 6 [(0, .ref (E.1 100)), (1, .int x1), (2, .int x2), (3, .int x3), (4, .int x4), (5, .int x5)] → W p l e (ea_rm 6 143) s m args below meth cd H locs 0 0 (MQ below (ea_Qi E ids res) args s 0 0 (ea_Ad E ids)) (F0 m 83 ls []) := by
  intro x1 x2 x3 x4 x5 M H locs ls hf  hw hl
  replace hf := (fX11_stories_83.eq_1 ..).symm.trans hf
  refine lv_iinc (v := x5 + (1 : Int32)) (lv' := [(5, .int (x5 + (1 : Int32))), (0, .ref (E.1 100)), (1, .int x1), (2, .int x2), (3, .int x3), (4, .int x4)]) C.1 C.2.1 dX11_stories_83 hl (k := 5) rfl rfl (by decide) rfl (fun ls hl => ?_)
  refine lv_goto (tgt := 30) C.1 C.2.1 dX11_stories_86 (by decide) ?_
  exact hk30 _ _ _ _ _ _ _ _ _ hf hw (lv_sub hl [1, 2, 3, 4, 5, 0] rfl)
set_option maxHeartbeats 4000000 in
set_option maxRecDepth 20000 in
theorem wX11_stories_81 (C : ea_C p s m args meth cd cX11_stories 6 (some .int) RX11) (hY : ea_Y ids) {k30 : Int32 → Int32 → Int32 → Int32 → Int32 → eM → Option (Int32 × eM)} (hk30 : ∀ (x1 : Int32) (x2 : Int32) (x3 : Int32) (x4 : Int32) (x5 : Int32) (M : eM) (H : Heap) (locs : List Loc) (ls : Array Slot), k30 x1 x2 x3 x4 x5 M = some res → ea_w E ids M s H locs → lv_has ls 6 [(0, .ref (E.1 100)), (1, .int x1), (2, .int x2), (3, .int x3), (4, .int x4), (5, .int x5)] → W p l e (ea_rm 6 143) s m args below meth cd H locs 0 0 (MQ below (ea_Qi E ids res) args s 0 0 (ea_Ad E ids)) (F0 m 30 ls [])) : ∀ (x1 : Int32) (x2 : Int32) (x3 : Int32) (x5 : Int32) (t0 : Int32) (M : eM) (H : Heap) (locs : List Loc) (ls : Array Slot), fX11_stories_81 k30 x1 x2 x3 x5 t0 M = some res → ea_w E ids M s H locs → lv_has ls 6 [(0, .ref (E.1 100)), (1, .int x1), (2, .int x2), (3, .int x3), (5, .int x5)] → W p l e (ea_rm 6 143) s m args below meth cd H locs 0 0 (MQ below (ea_Qi E ids res) args s 0 0 (ea_Ad E ids)) (F0 m 81 ls [.int t0]) := by
  intro x1 x2 x3 x5 t0 M H locs ls hf  hw hl
  replace hf := (fX11_stories_81.eq_1 ..).symm.trans hf
  refine lv_istore (lv' := [(4, .int t0), (0, .ref (E.1 100)), (1, .int x1), (2, .int x2), (3, .int x3), (5, .int x5)]) C.1 C.2.1 dX11_stories_81 hl (by decide) rfl (fun ls hl => ?_)
  exact wX11_stories_83 C hY hk30 _ _ _ _ _ _ _ _ _ hf hw (lv_sub hl [1, 2, 3, 4, 0, 5] rfl)
set_option maxHeartbeats 4000000 in
set_option maxRecDepth 20000 in
theorem wX11_stories_30 (C : ea_C p s m args meth cd cX11_stories 6 (some .int) RX11) (hY : ea_Y ids) {k89 : Int32 → Int32 → Int32 → Int32 → eM → Option (Int32 × eM)} (hk89 : ∀ (x1 : Int32) (x2 : Int32) (x3 : Int32) (x4 : Int32) (M : eM) (H : Heap) (locs : List Loc) (ls : Array Slot), k89 x1 x2 x3 x4 M = some res → ea_w E ids M s H locs → lv_has ls 6 [(0, .ref (E.1 100)), (1, .int x1), (2, .int x2), (3, .int x3), (4, .int x4)] → W p l e (ea_rm 6 143) s m args below meth cd H locs 0 0 (MQ below (ea_Qi E ids res) args s 0 0 (ea_Ad E ids)) (F0 m 89 ls [])) : ∀ (n : Nat) (x1 : Int32) (x2 : Int32) (x3 : Int32) (x4 : Int32) (x5 : Int32) (M : eM) (H : Heap) (locs : List Loc) (ls : Array Slot), fX11_stories_30 k89 n x1 x2 x3 x4 x5 M = some res → ea_w E ids M s H locs → lv_has ls 6 [(0, .ref (E.1 100)), (1, .int x1), (2, .int x2), (3, .int x3), (4, .int x4), (5, .int x5)] → W p l e (ea_rm 6 143) s m args below meth cd H locs 0 0 (MQ below (ea_Qi E ids res) args s 0 0 (ea_Ad E ids)) (F0 m 30 ls []) := by
  intro n
  induction n with
  | zero => intro x1 x2 x3 x4 x5 M H locs ls hf; cases hf
  | succ n ih =>
    intro x1 x2 x3 x4 x5 M H locs ls hf  hw hl
    replace hf := (fX11_stories_30.eq_2 ..).symm.trans hf
    refine lv_iload C.1 C.2.1 dX11_stories_30 (lv_at hl 5 rfl) ?_
    refine lv_aload_n C.1 C.2.1 dX11_stories_32 rfl (lv_at hl 0 rfl) ?_
    obtain ⟨r2, M3, he1, hf⟩ := ea_ci_s hf
    refine ea_runi2 hw (cl_X11_222 C hw (hY 100 11 rfl) (As := []) (rest := [.int x5]) (mX11_cells (l := l) (E := E) (ids := ids) hY he1) (by decide) rfl hl.1 rfl (Nat.le_of_ble_eq_true rfl) dX11_stories_33 ⟨Nat.le_refl _, Nat.le_refl _⟩) (fun H locs hw => ?_)
    refine lv_icmp_ge (tgt := 89) C.1 C.2.1 dX11_stories_36 (by decide) (fun hc4 => ?_) (fun hc4 => ?_)
    · replace hf := ea_if_t hc4 hf
      exact hk89 _ _ _ _ _ _ _ _ hf hw (lv_sub hl [0, 1, 2, 3, 4] rfl)
    · replace hf := ea_if_f hc4 hf
      refine lv_iload C.1 C.2.1 dX11_stories_39 (lv_at hl 4 rfl) ?_
      refine lv_if_eq (tgt := 89) C.1 C.2.1 dX11_stories_41 (by decide) (fun hc5 => ?_) (fun hc5 => ?_)
      · replace hf := ea_if_t hc5 hf
        exact hk89 _ _ _ _ _ _ _ _ hf hw (lv_sub hl [0, 1, 2, 3, 4] rfl)
      · replace hf := ea_if_f hc5 hf
        refine lv_aload_n C.1 C.2.1 dX11_stories_44 rfl (lv_at hl 0 rfl) ?_
        refine lv_iload C.1 C.2.1 dX11_stories_45 (lv_at hl 5 rfl) ?_
        refine lv_iload_n C.1 C.2.1 dX11_stories_47 rfl (lv_at hl 1 rfl) ?_
        obtain ⟨M7, he6, hf⟩ := ea_cv_s hf
        refine ea_runv hw (cl_X11_293 C hw (hY 100 11 rfl) (As := [.int x5, .int x1]) (rest := []) (mX11_findWords (l := l) (E := E) (ids := ids) hY he6) (by decide) rfl hl.1 rfl (Nat.le_of_ble_eq_true rfl) dX11_stories_48 ⟨Nat.le_refl _, Nat.le_refl _⟩) (fun H locs hw => ?_)
        refine lv_aload_n C.1 C.2.1 dX11_stories_51 rfl (lv_at hl 0 rfl) ?_
        refine gf_X11_283 C hw (hY 100 11 rfl) dX11_stories_52 ?_
        refine lv_if_ne (tgt := 61) C.1 C.2.1 dX11_stories_55 (by decide) (fun hc8 => ?_) (fun hc8 => ?_)
        · replace hf := ea_if_f hc8 hf
          refine lv_aload_n C.1 C.2.1 dX11_stories_61 rfl (lv_at hl 0 rfl) ?_
          refine lv_iload C.1 C.2.1 dX11_stories_62 (lv_at hl 5 rfl) ?_
          refine lv_iload_n C.1 C.2.1 dX11_stories_64 rfl (lv_at hl 3 rfl) ?_
          refine lv_iload_n C.1 C.2.1 dX11_stories_65 rfl (lv_at hl 1 rfl) ?_
          obtain ⟨M10, he9, hf⟩ := ea_cv_s hf
          refine ea_runv hw (cl_X11_313 C hw (hY 100 11 rfl) (As := [.int x5, .int x3, .int x1]) (rest := []) (mX11_findFits (l := l) (E := E) (ids := ids) hY he9) (by decide) rfl hl.1 rfl (Nat.le_of_ble_eq_true rfl) dX11_stories_66 ⟨Nat.le_refl _, Nat.le_refl _⟩) (fun H locs hw => ?_)
          refine lv_aload_n C.1 C.2.1 dX11_stories_69 rfl (lv_at hl 0 rfl) ?_
          refine gf_X11_300 C hw (hY 100 11 rfl) dX11_stories_70 ?_
          refine lv_if_le (tgt := 80) C.1 C.2.1 dX11_stories_73 (by decide) (fun hc11 => ?_) (fun hc11 => ?_)
          · replace hf := ea_if_t hc11 hf
            refine lv_iconst (v := 0) C.1 C.2.1 dX11_stories_80 (by decide) ?_
            exact wX11_stories_81 C hY ih _ _ _ _ _ _ _ _ _ hf hw (lv_sub hl [0, 1, 2, 3, 5] rfl)
          · replace hf := ea_if_f hc11 hf
            refine lv_iconst (v := 1) C.1 C.2.1 dX11_stories_76 (by decide) ?_
            refine lv_goto (tgt := 81) C.1 C.2.1 dX11_stories_77 (by decide) ?_
            exact wX11_stories_81 C hY ih _ _ _ _ _ _ _ _ _ hf hw (lv_sub hl [0, 1, 2, 3, 5] rfl)
        · replace hf := ea_if_t hc8 hf
          refine lv_goto (tgt := 83) C.1 C.2.1 dX11_stories_58 (by decide) ?_
          exact wX11_stories_83 C hY ih _ _ _ _ _ _ _ _ _ hf hw (lv_sub hl [0, 1, 2, 3, 4, 5] rfl)
set_option maxHeartbeats 4000000 in
set_option maxRecDepth 20000 in
theorem wX11_stories_102 (C : ea_C p s m args meth cd cX11_stories 6 (some .int) RX11) (hY : ea_Y ids) {k14 : Int32 → Int32 → Int32 → eM → Option (Int32 × eM)} (hk14 : ∀ (x1 : Int32) (x2 : Int32) (x3 : Int32) (M : eM) (H : Heap) (locs : List Loc) (ls : Array Slot), k14 x1 x2 x3 M = some res → ea_w E ids M s H locs → lv_has ls 6 [(0, .ref (E.1 100)), (1, .int x1), (2, .int x2), (3, .int x3)] → W p l e (ea_rm 6 143) s m args below meth cd H locs 0 0 (MQ below (ea_Qi E ids res) args s 0 0 (ea_Ad E ids)) (F0 m 14 ls [])) : ∀ (x1 : Int32) (x3 : Int32) (t0 : Int32) (t1 : Int32) (M : eM) (H : Heap) (locs : List Loc) (ls : Array Slot), fX11_stories_102 k14 x1 x3 t0 t1 M = some res → ea_w E ids M s H locs → lv_has ls 6 [(0, .ref (E.1 100)), (1, .int x1), (3, .int x3)] → W p l e (ea_rm 6 143) s m args below meth cd H locs 0 0 (MQ below (ea_Qi E ids res) args s 0 0 (ea_Ad E ids)) (F0 m 102 ls [.int t0, .int t1]) := by
  intro x1 x3 t0 t1 M H locs ls hf  hw hl
  replace hf := (fX11_stories_102.eq_1 ..).symm.trans hf
  refine lv_ior C.1 C.2.1 dX11_stories_102 ?_
  refine lv_istore_n (lv' := [(2, .int (t1 ||| t0)), (0, .ref (E.1 100)), (1, .int x1), (3, .int x3)]) C.1 C.2.1 dX11_stories_103 rfl hl (by decide) rfl (fun ls hl => ?_)
  refine lv_iinc (v := x3 + (1 : Int32)) (lv' := [(3, .int (x3 + (1 : Int32))), (2, .int (t1 ||| t0)), (0, .ref (E.1 100)), (1, .int x1)]) C.1 C.2.1 dX11_stories_104 hl (k := 3) rfl rfl (by decide) rfl (fun ls hl => ?_)
  refine lv_goto (tgt := 14) C.1 C.2.1 dX11_stories_107 (by decide) ?_
  exact hk14 _ _ _ _ _ _ _ hf hw (lv_sub hl [2, 3, 1, 0] rfl)
set_option maxHeartbeats 4000000 in
set_option maxRecDepth 20000 in
theorem wX11_stories_89 (C : ea_C p s m args meth cd cX11_stories 6 (some .int) RX11) (hY : ea_Y ids) {k14 : Int32 → Int32 → Int32 → eM → Option (Int32 × eM)} (hk14 : ∀ (x1 : Int32) (x2 : Int32) (x3 : Int32) (M : eM) (H : Heap) (locs : List Loc) (ls : Array Slot), k14 x1 x2 x3 M = some res → ea_w E ids M s H locs → lv_has ls 6 [(0, .ref (E.1 100)), (1, .int x1), (2, .int x2), (3, .int x3)] → W p l e (ea_rm 6 143) s m args below meth cd H locs 0 0 (MQ below (ea_Qi E ids res) args s 0 0 (ea_Ad E ids)) (F0 m 14 ls [])) : ∀ (x1 : Int32) (x2 : Int32) (x3 : Int32) (x4 : Int32) (M : eM) (H : Heap) (locs : List Loc) (ls : Array Slot), fX11_stories_89 k14 x1 x2 x3 x4 M = some res → ea_w E ids M s H locs → lv_has ls 6 [(0, .ref (E.1 100)), (1, .int x1), (2, .int x2), (3, .int x3), (4, .int x4)] → W p l e (ea_rm 6 143) s m args below meth cd H locs 0 0 (MQ below (ea_Qi E ids res) args s 0 0 (ea_Ad E ids)) (F0 m 89 ls []) := by
  intro x1 x2 x3 x4 M H locs ls hf  hw hl
  replace hf := (fX11_stories_89.eq_1 ..).symm.trans hf
  refine lv_iload_n C.1 C.2.1 dX11_stories_89 rfl (lv_at hl 2 rfl) ?_
  refine lv_iload C.1 C.2.1 dX11_stories_90 (lv_at hl 4 rfl) ?_
  refine lv_if_eq (tgt := 101) C.1 C.2.1 dX11_stories_92 (by decide) (fun hc1 => ?_) (fun hc1 => ?_)
  · replace hf := ea_if_t hc1 hf
    refine lv_iconst (v := 0) C.1 C.2.1 dX11_stories_101 (by decide) ?_
    exact wX11_stories_102 C hY hk14 _ _ _ _ _ _ _ _ hf hw (lv_sub hl [0, 1, 3] rfl)
  · replace hf := ea_if_f hc1 hf
    refine lv_iconst (v := 1) C.1 C.2.1 dX11_stories_95 (by decide) ?_
    refine lv_iload_n C.1 C.2.1 dX11_stories_96 rfl (lv_at hl 3 rfl) ?_
    refine lv_ishl C.1 C.2.1 dX11_stories_97 ?_
    refine lv_goto (tgt := 102) C.1 C.2.1 dX11_stories_98 (by decide) ?_
    exact wX11_stories_102 C hY hk14 _ _ _ _ _ _ _ _ hf hw (lv_sub hl [0, 1, 3] rfl)
set_option maxHeartbeats 4000000 in
set_option maxRecDepth 20000 in
theorem wX11_stories_14 (C : ea_C p s m args meth cd cX11_stories 6 (some .int) RX11) (hY : ea_Y ids) : ∀ (n : Nat) (x1 : Int32) (x2 : Int32) (x3 : Int32) (M : eM) (H : Heap) (locs : List Loc) (ls : Array Slot), fX11_stories_14 n x1 x2 x3 M = some res → ea_w E ids M s H locs → lv_has ls 6 [(0, .ref (E.1 100)), (1, .int x1), (2, .int x2), (3, .int x3)] → W p l e (ea_rm 6 143) s m args below meth cd H locs 0 0 (MQ below (ea_Qi E ids res) args s 0 0 (ea_Ad E ids)) (F0 m 14 ls []) := by
  intro n
  induction n with
  | zero => intro x1 x2 x3 M H locs ls hf; cases hf
  | succ n ih =>
    intro x1 x2 x3 M H locs ls hf  hw hl
    replace hf := (fX11_stories_14.eq_2 ..).symm.trans hf
    refine lv_iload_n C.1 C.2.1 dX11_stories_14 rfl (lv_at hl 3 rfl) ?_
    refine lv_aload_n C.1 C.2.1 dX11_stories_15 rfl (lv_at hl 0 rfl) ?_
    refine gf_X11_17 C hw (hY 100 11 rfl) dX11_stories_16 ?_
    refine W.eq (g2 := F0 m 19 ls [.ref (E.1 102), .int x3]) rfl ?_
    refine lv_iconst (v := 5) C.1 C.2.1 dX11_stories_19 (by decide) ?_
    refine ea_iald C hw (show ea_ok ids 102 20 from ok_11_12 (hY 100 11 rfl)) (by decide) dX11_stories_20 ?_
    refine lv_icmp_ge (tgt := 110) C.1 C.2.1 dX11_stories_21 (by decide) (fun hc1 => ?_) (fun hc1 => ?_)
    · replace hf := ea_if_t hc1 hf
      refine lv_iload_n C.1 C.2.1 dX11_stories_110 rfl (lv_at hl 2 rfl) ?_
      exact ea_iret C hw hf dX11_stories_111
    · replace hf := ea_if_f hc1 hf
      refine lv_iconst (v := 1) C.1 C.2.1 dX11_stories_24 (by decide) ?_
      refine lv_istore (lv' := [(4, .int (1 : Int32)), (0, .ref (E.1 100)), (1, .int x1), (2, .int x2), (3, .int x3)]) C.1 C.2.1 dX11_stories_25 hl (by decide) rfl (fun ls hl => ?_)
      refine lv_iconst (v := 0) C.1 C.2.1 dX11_stories_27 (by decide) ?_
      refine lv_istore (lv' := [(5, .int (0 : Int32)), (4, .int (1 : Int32)), (0, .ref (E.1 100)), (1, .int x1), (2, .int x2), (3, .int x3)]) C.1 C.2.1 dX11_stories_28 hl (by decide) rfl (fun ls hl => ?_)
      exact wX11_stories_30 C hY (wX11_stories_89 C hY ih) ea_N _ _ _ _ _ _ _ _ _ hf hw (lv_sub hl [2, 3, 4, 5, 1, 0] rfl)
set_option maxHeartbeats 4000000 in
set_option maxRecDepth 20000 in
theorem wX11_stories_0 (C : ea_C p s m args meth cd cX11_stories 6 (some .int) RX11) (hY : ea_Y ids) : ∀ (x1 : Int32) (M : eM) (H : Heap) (locs : List Loc) (ls : Array Slot), fX11_stories_0 x1 M = some res → ea_w E ids M s H locs → lv_has ls 6 [(0, .ref (E.1 100)), (1, .int x1)] → W p l e (ea_rm 6 143) s m args below meth cd H locs 0 0 (MQ below (ea_Qi E ids res) args s 0 0 (ea_Ad E ids)) (F0 m 0 ls []) := by
  intro x1 M H locs ls hf  hw hl
  replace hf := (fX11_stories_0.eq_1 ..).symm.trans hf
  refine lv_iload_n C.1 C.2.1 dX11_stories_0 rfl (lv_at hl 1 rfl) ?_
  obtain ⟨r2, M3, he1, hf⟩ := ea_ci_s hf
  refine ea_runi2 hw (cl_X11_274 C hw (As := [.int x1]) (rest := []) (mX11_isStep (l := l) (E := E) (ids := ids) hY he1) (by decide) rfl hl.1 rfl (Nat.le_of_ble_eq_true rfl) dX11_stories_1 ⟨Nat.le_refl _, Nat.le_refl _⟩) (fun H locs hw => ?_)
  refine lv_if_ne (tgt := 10) C.1 C.2.1 dX11_stories_4 (by decide) (fun hc4 => ?_) (fun hc4 => ?_)
  · replace hf := ea_if_f hc4 hf
    refine lv_iconst (v := 0) C.1 C.2.1 dX11_stories_10 (by decide) ?_
    refine lv_istore_n (lv' := [(2, .int (0 : Int32)), (0, .ref (E.1 100)), (1, .int x1)]) C.1 C.2.1 dX11_stories_11 rfl hl (by decide) rfl (fun ls hl => ?_)
    refine lv_iconst (v := 0) C.1 C.2.1 dX11_stories_12 (by decide) ?_
    refine lv_istore_n (lv' := [(3, .int (0 : Int32)), (2, .int (0 : Int32)), (0, .ref (E.1 100)), (1, .int x1)]) C.1 C.2.1 dX11_stories_13 rfl hl (by decide) rfl (fun ls hl => ?_)
    exact wX11_stories_14 C hY ea_N _ _ _ _ _ _ _ hf hw (lv_sub hl [2, 3, 1, 0] rfl)
  · replace hf := ea_if_t hc4 hf
    refine lv_bipush (v := (-2 : Int32)) C.1 C.2.1 dX11_stories_7 (by decide) ?_
    exact ea_iret C hw hf dX11_stories_9
set_option maxHeartbeats 4000000 in
set_option maxRecDepth 20000 in
theorem mX11_stories {l : Launch} {E : eE} {ids : List Nat} (hY : ea_Y ids) {x1 : Int32} {M : eM} {res : Int32 × eM} (hf : fX11_stories x1 M = some res) : ea_Mi l yX11_stories cX11_stories 6 (some .int) 6 143 E ids [.ref (E.1 100), .int x1] M res := by
  refine ea_goi (by decide) (Nat.le_of_ble_eq_true rfl) wc_X11_stories ?_
  intro p e s m below meth cd ls C hw hl
  exact wX11_stories_0 C hY _ _ _ _ _ hf hw hl
end SX11_stories

def fX11_strength_0 (x1 : Int32) (x2 : Int32) (M : eM) : Option (Int32 × eM) := ea_ci (fX11_isStuff x1 M) (fun r2 M3 => if r2 = 0 then (some ((-2 : Int32), M3)) else (ea_ci (fX11_areHours x2 M3) (fun r6 M7 => if r6 = 0 then (some ((-2 : Int32), M7)) else (ea_ci (fX11_strengthOf x1 x2 M7) (fun r10 M11 => some (r10, M11))))))
def fX11_strength (x1 : Int32) (x2 : Int32) (M : eM) : Option (Int32 × eM) := fX11_strength_0 x1 x2 M
section SX11_strength
variable {p : Program} {l : Launch} {e : Env} {s : State} {m : MethodId} {args : Array Value} {below : List Frame} {meth : Method} {cd : Code} {E : eE} {ids : List Nat} {res : Int32 × eM}
set_option maxHeartbeats 4000000 in
set_option maxRecDepth 20000 in
theorem wX11_strength_0 (C : ea_C p s m args meth cd cX11_strength 3 (some .int) RX11) (hY : ea_Y ids) : ∀ (x1 : Int32) (x2 : Int32) (M : eM) (H : Heap) (locs : List Loc) (ls : Array Slot), fX11_strength_0 x1 x2 M = some res → ea_w E ids M s H locs → lv_has ls 3 [(0, .ref (E.1 100)), (1, .int x1), (2, .int x2)] → W p l e (ea_rm 2 43) s m args below meth cd H locs 0 0 (MQ below (ea_Qi E ids res) args s 0 0 (ea_Ad E ids)) (F0 m 0 ls []) := by
  intro x1 x2 M H locs ls hf  hw hl
  replace hf := (fX11_strength_0.eq_1 ..).symm.trans hf
  refine lv_aload_n C.1 C.2.1 dX11_strength_0 rfl (lv_at hl 0 rfl) ?_
  refine lv_iload_n C.1 C.2.1 dX11_strength_1 rfl (lv_at hl 1 rfl) ?_
  obtain ⟨r2, M3, he1, hf⟩ := ea_ci_s hf
  refine ea_runi2 hw (cl_X11_232 C hw (hY 100 11 rfl) (As := [.int x1]) (rest := []) (mX11_isStuff (l := l) (E := E) (ids := ids) hY he1) (by decide) rfl hl.1 rfl (Nat.le_of_ble_eq_true rfl) dX11_strength_2 ⟨Nat.le_refl _, Nat.le_refl _⟩) (fun H locs hw => ?_)
  refine lv_if_eq (tgt := 24) C.1 C.2.1 dX11_strength_5 (by decide) (fun hc4 => ?_) (fun hc4 => ?_)
  · replace hf := ea_if_t hc4 hf
    refine lv_bipush (v := (-2 : Int32)) C.1 C.2.1 dX11_strength_24 (by decide) ?_
    exact ea_iret C hw hf dX11_strength_26
  · replace hf := ea_if_f hc4 hf
    refine lv_iload_n C.1 C.2.1 dX11_strength_8 rfl (lv_at hl 2 rfl) ?_
    obtain ⟨r6, M7, he5, hf⟩ := ea_ci_s hf
    refine ea_runi2 hw (cl_X11_235 C hw (As := [.int x2]) (rest := []) (mX11_areHours (l := l) (E := E) (ids := ids) hY he5) (by decide) rfl hl.1 rfl (Nat.le_of_ble_eq_true rfl) dX11_strength_9 ⟨Nat.le_refl _, Nat.le_refl _⟩) (fun H locs hw => ?_)
    refine lv_if_eq (tgt := 24) C.1 C.2.1 dX11_strength_12 (by decide) (fun hc8 => ?_) (fun hc8 => ?_)
    · replace hf := ea_if_t hc8 hf
      refine lv_bipush (v := (-2 : Int32)) C.1 C.2.1 dX11_strength_24 (by decide) ?_
      exact ea_iret C hw hf dX11_strength_26
    · replace hf := ea_if_f hc8 hf
      refine lv_aload_n C.1 C.2.1 dX11_strength_15 rfl (lv_at hl 0 rfl) ?_
      refine lv_iload_n C.1 C.2.1 dX11_strength_16 rfl (lv_at hl 1 rfl) ?_
      refine lv_iload_n C.1 C.2.1 dX11_strength_17 rfl (lv_at hl 2 rfl) ?_
      obtain ⟨r10, M11, he9, hf⟩ := ea_ci_s hf
      refine ea_runi2 hw (cl_X11_238 C hw (hY 100 11 rfl) (As := [.int x1, .int x2]) (rest := []) (mX11_strengthOf (l := l) (E := E) (ids := ids) hY he9) (by decide) rfl hl.1 rfl (Nat.le_of_ble_eq_true rfl) dX11_strength_18 ⟨Nat.le_refl _, Nat.le_refl _⟩) (fun H locs hw => ?_)
      refine lv_goto (tgt := 26) C.1 C.2.1 dX11_strength_21 (by decide) ?_
      exact ea_iret C hw hf dX11_strength_26
set_option maxHeartbeats 4000000 in
set_option maxRecDepth 20000 in
theorem mX11_strength {l : Launch} {E : eE} {ids : List Nat} (hY : ea_Y ids) {x1 : Int32} {x2 : Int32} {M : eM} {res : Int32 × eM} (hf : fX11_strength x1 x2 M = some res) : ea_Mi l yX11_strength cX11_strength 3 (some .int) 2 43 E ids [.ref (E.1 100), .int x1, .int x2] M res := by
  refine ea_goi (by decide) (Nat.le_of_ble_eq_true rfl) wc_X11_strength ?_
  intro p e s m below meth cd ls C hw hl
  exact wX11_strength_0 C hY _ _ _ _ _ _ hf hw hl
end SX11_strength
