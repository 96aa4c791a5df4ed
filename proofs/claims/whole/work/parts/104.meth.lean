def fX9_numberOf_32 (k2 : Int32 → Int32 → Int32 → eM → Option (Int32 × eM)) (x1 : Int32) (x2 : Int32) (x3 : Int32) (M : eM) : Option (Int32 × eM) := k2 x1 x2 (x3 + (1 : Int32)) M
def fX9_numberOf_2 : Nat → Int32 → Int32 → Int32 → eM → Option (Int32 × eM)
  | 0, _, _, _, _ => none
  | n + 1, x1, x2, x3, M => if (M.1 4 1) ≤ x3 then (some ((-2 : Int32), M)) else (ea_ck (ea_ix x3 (ea_len 5)) (if (M.1 5 x3.toNatClampNeg) = x1 then (ea_ck (ea_ix x3 (ea_len 6)) (if (M.1 6 x3.toNatClampNeg) = x2 then (some (x3, M)) else (fX9_numberOf_32 (fX9_numberOf_2 n) x1 x2 x3 M))) else (fX9_numberOf_32 (fX9_numberOf_2 n) x1 x2 x3 M)))
def fX9_numberOf_0 (x1 : Int32) (x2 : Int32) (M : eM) : Option (Int32 × eM) := fX9_numberOf_2 ea_N x1 x2 (0 : Int32) M
def fX9_numberOf (x1 : Int32) (x2 : Int32) (M : eM) : Option (Int32 × eM) := fX9_numberOf_0 x1 x2 M
section SX9_numberOf
variable {p : Program} {l : Launch} {e : Env} {s : State} {m : MethodId} {args : Array Value} {below : List Frame} {meth : Method} {cd : Code} {E : eE} {ids : List Nat} {res : Int32 × eM}
set_option maxHeartbeats 4000000 in
set_option maxRecDepth 20000 in
theorem wX9_numberOf_32 (C : ea_C p s m args meth cd cX9_numberOf 4 (some .int) RX9) (hX : ea_X ids) {k2 : Int32 → Int32 → Int32 → eM → Option (Int32 × eM)} (hk2 : ∀ (x1 : Int32) (x2 : Int32) (x3 : Int32) (M : eM) (H : Heap) (locs : List Loc) (ls : Array Slot), k2 x1 x2 x3 M = some res → ea_w E ids M s H locs → lv_has ls 4 [(0, .ref (E.1 4)), (1, .int x1), (2, .int x2), (3, .int x3)] → W p l e (ea_rm 0 0) s m args below meth cd H locs 0 0 (MQ below (ea_Qi E ids res) args s 0 0 (ea_Ad E ids)) (F0 m 2 ls [])) : ∀ (x1 : Int32) (x2 : Int32) (x3 : Int32) (M : eM) (H : Heap) (locs : List Loc) (ls : Array Slot), fX9_numberOf_32 k2 x1 x2 x3 M = some res → ea_w E ids M s H locs → lv_has ls 4 [(0, .ref (E.1 4)), (1, .int x1), (2, .int x2), (3, .int x3)] → W p l e (ea_rm 0 0) s m args below meth cd H locs 0 0 (MQ below (ea_Qi E ids res) args s 0 0 (ea_Ad E ids)) (F0 m 32 ls []) := by
  intro x1 x2 x3 M H locs ls hf  hw hl
  replace hf := (fX9_numberOf_32.eq_1 ..).symm.trans hf
  refine lv_iinc (v := x3 + (1 : Int32)) (lv' := [(3, .int (x3 + (1 : Int32))), (0, .ref (E.1 4)), (1, .int x1), (2, .int x2)]) C.1 C.2.1 dX9_numberOf_32 hl (k := 3) rfl rfl (by decide) rfl (fun ls hl => ?_)
  refine lv_goto (tgt := 2) C.1 C.2.1 dX9_numberOf_35 (by decide) ?_
  exact hk2 _ _ _ _ _ _ _ hf hw (lv_sub hl [1, 2, 3, 0] rfl)
set_option maxHeartbeats 4000000 in
set_option maxRecDepth 20000 in
theorem wX9_numberOf_2 (C : ea_C p s m args meth cd cX9_numberOf 4 (some .int) RX9) (hX : ea_X ids) : ∀ (n : Nat) (x1 : Int32) (x2 : Int32) (x3 : Int32) (M : eM) (H : Heap) (locs : List Loc) (ls : Array Slot), fX9_numberOf_2 n x1 x2 x3 M = some res → ea_w E ids M s H locs → lv_has ls 4 [(0, .ref (E.1 4)), (1, .int x1), (2, .int x2), (3, .int x3)] → W p l e (ea_rm 0 0) s m args below meth cd H locs 0 0 (MQ below (ea_Qi E ids res) args s 0 0 (ea_Ad E ids)) (F0 m 2 ls []) := by
  intro n
  induction n with
  | zero => intro x1 x2 x3 M H locs ls hf; cases hf
  | succ n ih =>
    intro x1 x2 x3 M H locs ls hf  hw hl
    replace hf := (fX9_numberOf_2.eq_2 ..).symm.trans hf
    refine lv_iload_n C.1 C.2.1 dX9_numberOf_2 rfl (lv_at hl 3 rfl) ?_
    refine lv_aload_n C.1 C.2.1 dX9_numberOf_3 rfl (lv_at hl 0 rfl) ?_
    refine gf_X9_22 C hw (hX 4 9 rfl) dX9_numberOf_4 ?_
    refine lv_icmp_ge (tgt := 38) C.1 C.2.1 dX9_numberOf_7 (by decide) (fun hc1 => ?_) (fun hc1 => ?_)
    · replace hf := ea_if_t hc1 hf
      refine lv_bipush (v := (-2 : Int32)) C.1 C.2.1 dX9_numberOf_38 (by decide) ?_
      exact ea_iret C hw hf dX9_numberOf_40
    · replace hf := ea_if_f hc1 hf
      refine lv_aload_n C.1 C.2.1 dX9_numberOf_10 rfl (lv_at hl 0 rfl) ?_
      refine gf_X9_11 C hw (hX 4 9 rfl) dX9_numberOf_11 ?_
      refine W.eq (g2 := F0 m 14 ls [.ref (E.1 5)]) rfl ?_
      refine lv_iload_n C.1 C.2.1 dX9_numberOf_14 rfl (lv_at hl 3 rfl) ?_
      obtain ⟨hc2, hf⟩ := ea_ck_s hf
      refine ea_iald C hw (show ea_ok ids 5 20 from ok_9_2 (hX 4 9 rfl)) hc2 dX9_numberOf_15 ?_
      refine lv_iload_n C.1 C.2.1 dX9_numberOf_16 rfl (lv_at hl 1 rfl) ?_
      refine lv_icmp_ne (tgt := 32) C.1 C.2.1 dX9_numberOf_17 (by decide) (fun hc3 => ?_) (fun hc3 => ?_)
      · replace hf := ea_if_f hc3 hf
        exact wX9_numberOf_32 C hX ih _ _ _ _ _ _ _ hf hw (lv_sub hl [0, 1, 2, 3] rfl)
      · replace hf := ea_if_t hc3 hf
        refine lv_aload_n C.1 C.2.1 dX9_numberOf_20 rfl (lv_at hl 0 rfl) ?_
        refine gf_X9_15 C hw (hX 4 9 rfl) dX9_numberOf_21 ?_
        refine W.eq (g2 := F0 m 24 ls [.ref (E.1 6)]) rfl ?_
        refine lv_iload_n C.1 C.2.1 dX9_numberOf_24 rfl (lv_at hl 3 rfl) ?_
        obtain ⟨hc4, hf⟩ := ea_ck_s hf
        refine ea_iald C hw (show ea_ok ids 6 20 from ok_9_3 (hX 4 9 rfl)) hc4 dX9_numberOf_25 ?_
        refine lv_iload_n C.1 C.2.1 dX9_numberOf_26 rfl (lv_at hl 2 rfl) ?_
        refine lv_icmp_ne (tgt := 32) C.1 C.2.1 dX9_numberOf_27 (by decide) (fun hc5 => ?_) (fun hc5 => ?_)
        · replace hf := ea_if_f hc5 hf
          exact wX9_numberOf_32 C hX ih _ _ _ _ _ _ _ hf hw (lv_sub hl [0, 1, 2, 3] rfl)
        · replace hf := ea_if_t hc5 hf
          refine lv_iload_n C.1 C.2.1 dX9_numberOf_30 rfl (lv_at hl 3 rfl) ?_
          exact ea_iret C hw hf dX9_numberOf_31
set_option maxHeartbeats 4000000 in
set_option maxRecDepth 20000 in
theorem wX9_numberOf_0 (C : ea_C p s m args meth cd cX9_numberOf 4 (some .int) RX9) (hX : ea_X ids) : ∀ (x1 : Int32) (x2 : Int32) (M : eM) (H : Heap) (locs : List Loc) (ls : Array Slot), fX9_numberOf_0 x1 x2 M = some res → ea_w E ids M s H locs → lv_has ls 4 [(0, .ref (E.1 4)), (1, .int x1), (2, .int x2)] → W p l e (ea_rm 0 0) s m args below meth cd H locs 0 0 (MQ below (ea_Qi E ids res) args s 0 0 (ea_Ad E ids)) (F0 m 0 ls []) := by
  intro x1 x2 M H locs ls hf  hw hl
  replace hf := (fX9_numberOf_0.eq_1 ..).symm.trans hf
  refine lv_iconst (v := 0) C.1 C.2.1 dX9_numberOf_0 (by decide) ?_
  refine lv_istore_n (lv' := [(3, .int (0 : Int32)), (0, .ref (E.1 4)), (1, .int x1), (2, .int x2)]) C.1 C.2.1 dX9_numberOf_1 rfl hl (by decide) rfl (fun ls hl => ?_)
  exact wX9_numberOf_2 C hX ea_N _ _ _ _ _ _ _ hf hw (lv_sub hl [1, 2, 3, 0] rfl)
set_option maxHeartbeats 4000000 in
set_option maxRecDepth 20000 in
theorem mX9_numberOf {l : Launch} {E : eE} {ids : List Nat} (hX : ea_X ids) {x1 : Int32} {x2 : Int32} {M : eM} {res : Int32 × eM} (hf : fX9_numberOf x1 x2 M = some res) : ea_Mi l yX9_numberOf cX9_numberOf 4 (some .int) 0 0 E ids [.ref (E.1 4), .int x1, .int x2] M res := by
  refine ea_goi (by decide) (Nat.le_of_ble_eq_true rfl) wc_X9_numberOf ?_
  intro p e s m below meth cd ls C hw hl
  exact wX9_numberOf_0 C hX _ _ _ _ _ _ hf hw hl
end SX9_numberOf

def fX10_drawThread_114 (x3 : Int32) (t0 : Int32) (t1 : Int32) (M : eM) : Option (Int32 × eM) := ea_ci (fX0_draw (9 : Int32) M) (fun r2 M3 => ea_ci (fX9_rowOf (t1 + t0) (r2 + (1 : Int32)) M3) (fun r5 M6 => ea_ci (fX9_numberOf (ea_min x3 r5) (ea_max x3 r5) M6) (fun r8 M9 => some (r8, M9))))
def fX10_drawThread_71 (x1 : Int32) (x2 : Int32) (x3 : Int32) (t0 : Int32) (M : eM) : Option (Int32 × eM) := if t0 = 0 then (ea_ci (fX9_numberOf x3 (45 : Int32) M) (fun r7 M8 => some (r7, M8))) else (ea_ci (fX0_draw (x1 - (1 : Int32)) M) (fun r3 M4 => if r3 < x2 then (fX10_drawThread_114 x3 (0 : Int32) r3 M4) else (fX10_drawThread_114 x3 (1 : Int32) r3 M4)))
def fX10_drawThread_70 (x1 : Int32) (x2 : Int32) (x3 : Int32) (M : eM) : Option (Int32 × eM) := fX10_drawThread_71 x1 x2 x3 (0 : Int32) M
def fX10_drawThread_0 (M : eM) : Option (Int32 × eM) := ea_ck (ea_is (M.2.2 4 0) 1) (ea_ci (fX0_draw (M.1 (M.2.2 4 0) 8) M) (fun r3 M4 => ea_ci (fX0_draw (9 : Int32) M4) (fun r6 M7 => ea_ci (fX9_rowOf r3 (r6 + (1 : Int32)) M7) (fun r9 M10 => ea_ci (fX0_draw (3 : Int32) M10) (fun r12 M13 => if r12 = 0 then (if (M.1 (M.2.2 4 0) 8) ≤ (1 : Int32) then (fX10_drawThread_70 (M.1 (M.2.2 4 0) 8) r3 r9 M13) else (ea_ck (ea_is (M13.2.2 4 0) 1) (if (M13.1 (M13.2.2 4 0) 3) = (2 : Int32) then (fX10_drawThread_71 (M.1 (M.2.2 4 0) 8) r3 r9 (1 : Int32) M13) else (fX10_drawThread_70 (M.1 (M.2.2 4 0) 8) r3 r9 M13)))) else (fX10_drawThread_70 (M.1 (M.2.2 4 0) 8) r3 r9 M13))))))
def fX10_drawThread (M : eM) : Option (Int32 × eM) := fX10_drawThread_0 M
section SX10_drawThread
variable {p : Program} {l : Launch} {e : Env} {s : State} {m : MethodId} {args : Array Value} {below : List Frame} {meth : Method} {cd : Code} {E : eE} {ids : List Nat} {res : Int32 × eM}
set_option maxHeartbeats 4000000 in
set_option maxRecDepth 20000 in
theorem wX10_drawThread_114 (C : ea_C p s m args meth cd cX10_drawThread 7 (some .int) RX10) (hX : ea_X ids) : ∀ (x3 : Int32) (t0 : Int32) (t1 : Int32) (M : eM) (H : Heap) (locs : List Loc) (ls : Array Slot), fX10_drawThread_114 x3 t0 t1 M = some res → ea_w E ids M s H locs → lv_has ls 7 [(0, .ref (E.1 0)), (3, .int x3)] → W p l e (ea_rm 1 23) s m args below meth cd H locs 0 0 (MQ below (ea_Qi E ids res) args s 0 0 (ea_Ad E ids)) (F0 m 114 ls [.int t0, .int t1]) := by
  intro x3 t0 t1 M H locs ls hf  hw hl
  replace hf := (fX10_drawThread_114.eq_1 ..).symm.trans hf
  refine lv_iadd C.1 C.2.1 dX10_drawThread_114 ?_
  refine lv_istore (lv' := [(5, .int (t1 + t0)), (0, .ref (E.1 0)), (3, .int x3)]) C.1 C.2.1 dX10_drawThread_115 hl (by decide) rfl (fun ls hl => ?_)
  refine lv_iload C.1 C.2.1 dX10_drawThread_117 (lv_at hl 0 rfl) ?_
  refine lv_aload_n C.1 C.2.1 dX10_drawThread_119 rfl (lv_at hl 1 rfl) ?_
  refine gf_X10_81 C hw (hX 0 10 rfl) dX10_drawThread_120 ?_
  refine lv_bipush (v := 9) C.1 C.2.1 dX10_drawThread_123 (by decide) ?_
  obtain ⟨r2, M3, he1, hf⟩ := ea_ci_s hf
  refine ea_runi2 hw (cl_X10_348 C hw (hX 78 0 rfl) (As := [.int (9 : Int32)]) (rest := [.int (t1 + t0)]) (mX0_draw (l := l) (E := E) (ids := ids) hX he1) (by decide) rfl hl.1 rfl (Nat.le_of_ble_eq_true rfl) dX10_drawThread_125 ⟨Nat.le_refl _, Nat.le_refl _⟩) (fun H locs hw => ?_)
  refine lv_iconst (v := 1) C.1 C.2.1 dX10_drawThread_128 (by decide) ?_
  refine lv_iadd C.1 C.2.1 dX10_drawThread_129 ?_
  obtain ⟨r5, M6, he4, hf⟩ := ea_ci_s hf
  refine ea_runi2 hw (cl_X10_177 C hw (As := [.int (t1 + t0), .int (r2 + (1 : Int32))]) (rest := []) (mX9_rowOf (l := l) (E := E) (ids := ids) hX he4) (by decide) rfl hl.1 rfl (Nat.le_of_ble_eq_true rfl) dX10_drawThread_130 ⟨Nat.le_refl _, Nat.le_refl _⟩) (fun H locs hw => ?_)
  refine lv_istore (lv' := [(6, .int r5), (5, .int (t1 + t0)), (0, .ref (E.1 0)), (3, .int x3)]) C.1 C.2.1 dX10_drawThread_133 hl (by decide) rfl (fun ls hl => ?_)
  refine lv_aload_n C.1 C.2.1 dX10_drawThread_135 rfl (lv_at hl 2 rfl) ?_
  refine gf_X10_24 C hw (hX 0 10 rfl) dX10_drawThread_136 ?_
  refine lv_iload_n C.1 C.2.1 dX10_drawThread_139 rfl (lv_at hl 3 rfl) ?_
  refine lv_iload C.1 C.2.1 dX10_drawThread_140 (lv_at hl 0 rfl) ?_
  refine mm_X10_385 C hl.1 (by decide) (Nat.le_of_ble_eq_true rfl) ⟨Nat.le_refl _, Nat.le_refl _⟩ dX10_drawThread_142 ?_
  refine lv_iload_n C.1 C.2.1 dX10_drawThread_145 rfl (lv_at hl 3 rfl) ?_
  refine lv_iload C.1 C.2.1 dX10_drawThread_146 (lv_at hl 0 rfl) ?_
  refine mm_X10_369 C hl.1 (by decide) (Nat.le_of_ble_eq_true rfl) ⟨Nat.le_refl _, Nat.le_refl _⟩ dX10_drawThread_148 ?_
  obtain ⟨r8, M9, he7, hf⟩ := ea_ci_s hf
  refine ea_runi2 hw (cl_X10_180 C hw (hX 4 9 rfl) (As := [.int (ea_min x3 r5), .int (ea_max x3 r5)]) (rest := []) (mX9_numberOf (l := l) (E := E) (ids := ids) hX he7) (by decide) rfl hl.1 rfl (Nat.le_of_ble_eq_true rfl) dX10_drawThread_151 ⟨Nat.le_refl _, Nat.le_refl _⟩) (fun H locs hw => ?_)
  exact ea_iret C hw hf dX10_drawThread_154
set_option maxHeartbeats 4000000 in
set_option maxRecDepth 20000 in
theorem wX10_drawThread_71 (C : ea_C p s m args meth cd cX10_drawThread 7 (some .int) RX10) (hX : ea_X ids) : ∀ (x1 : Int32) (x2 : Int32) (x3 : Int32) (t0 : Int32) (M : eM) (H : Heap) (locs : List Loc) (ls : Array Slot), fX10_drawThread_71 x1 x2 x3 t0 M = some res → ea_w E ids M s H locs → lv_has ls 7 [(0, .ref (E.1 0)), (1, .int x1), (2, .int x2), (3, .int x3)] → W p l e (ea_rm 1 23) s m args below meth cd H locs 0 0 (MQ below (ea_Qi E ids res) args s 0 0 (ea_Ad E ids)) (F0 m 71 ls [.int t0]) := by
  intro x1 x2 x3 t0 M H locs ls hf  hw hl
  replace hf := (fX10_drawThread_71.eq_1 ..).symm.trans hf
  refine lv_istore (lv' := [(4, .int t0), (0, .ref (E.1 0)), (1, .int x1), (2, .int x2), (3, .int x3)]) C.1 C.2.1 dX10_drawThread_71 hl (by decide) rfl (fun ls hl => ?_)
  refine lv_iload C.1 C.2.1 dX10_drawThread_73 (lv_at hl 0 rfl) ?_
  refine lv_if_ne (tgt := 89) C.1 C.2.1 dX10_drawThread_75 (by decide) (fun hc1 => ?_) (fun hc1 => ?_)
  · replace hf := ea_if_f hc1 hf
    refine lv_aload_n C.1 C.2.1 dX10_drawThread_89 rfl (lv_at hl 1 rfl) ?_
    refine gf_X10_81 C hw (hX 0 10 rfl) dX10_drawThread_90 ?_
    refine lv_iload_n C.1 C.2.1 dX10_drawThread_93 rfl (lv_at hl 2 rfl) ?_
    refine lv_iconst (v := 1) C.1 C.2.1 dX10_drawThread_94 (by decide) ?_
    refine lv_isub C.1 C.2.1 dX10_drawThread_95 ?_
    obtain ⟨r3, M4, he2, hf⟩ := ea_ci_s hf
    refine ea_runi2 hw (cl_X10_348 C hw (hX 78 0 rfl) (As := [.int (x1 - (1 : Int32))]) (rest := []) (mX0_draw (l := l) (E := E) (ids := ids) hX he2) (by decide) rfl hl.1 rfl (Nat.le_of_ble_eq_true rfl) dX10_drawThread_96 ⟨Nat.le_refl _, Nat.le_refl _⟩) (fun H locs hw => ?_)
    refine lv_istore (lv' := [(5, .int r3), (4, .int t0), (0, .ref (E.1 0)), (1, .int x1), (2, .int x2), (3, .int x3)]) C.1 C.2.1 dX10_drawThread_99 hl (by decide) rfl (fun ls hl => ?_)
    refine lv_iload C.1 C.2.1 dX10_drawThread_101 (lv_at hl 0 rfl) ?_
    refine lv_iload C.1 C.2.1 dX10_drawThread_103 (lv_at hl 0 rfl) ?_
    refine lv_iload_n C.1 C.2.1 dX10_drawThread_105 rfl (lv_at hl 4 rfl) ?_
    refine lv_icmp_lt (tgt := 113) C.1 C.2.1 dX10_drawThread_106 (by decide) (fun hc5 => ?_) (fun hc5 => ?_)
    · replace hf := ea_if_t hc5 hf
      refine lv_iconst (v := 0) C.1 C.2.1 dX10_drawThread_113 (by decide) ?_
      exact wX10_drawThread_114 C hX _ _ _ _ _ _ _ hf hw (lv_sub hl [2, 5] rfl)
    · replace hf := ea_if_f hc5 hf
      refine lv_iconst (v := 1) C.1 C.2.1 dX10_drawThread_109 (by decide) ?_
      refine lv_goto (tgt := 114) C.1 C.2.1 dX10_drawThread_110 (by decide) ?_
      exact wX10_drawThread_114 C hX _ _ _ _ _ _ _ hf hw (lv_sub hl [2, 5] rfl)
  · replace hf := ea_if_t hc1 hf
    refine lv_aload_n C.1 C.2.1 dX10_drawThread_78 rfl (lv_at hl 1 rfl) ?_
    refine gf_X10_24 C hw (hX 0 10 rfl) dX10_drawThread_79 ?_
    refine lv_iload_n C.1 C.2.1 dX10_drawThread_82 rfl (lv_at hl 4 rfl) ?_
    refine lv_bipush (v := 45) C.1 C.2.1 dX10_drawThread_83 (by decide) ?_
    obtain ⟨r7, M8, he6, hf⟩ := ea_ci_s hf
    refine ea_runi2 hw (cl_X10_180 C hw (hX 4 9 rfl) (As := [.int x3, .int (45 : Int32)]) (rest := []) (mX9_numberOf (l := l) (E := E) (ids := ids) hX he6) (by decide) rfl hl.1 rfl (Nat.le_of_ble_eq_true rfl) dX10_drawThread_85 ⟨Nat.le_refl _, Nat.le_refl _⟩) (fun H locs hw => ?_)
    exact ea_iret C hw hf dX10_drawThread_88
set_option maxHeartbeats 4000000 in
set_option maxRecDepth 20000 in
theorem wX10_drawThread_70 (C : ea_C p s m args meth cd cX10_drawThread 7 (some .int) RX10) (hX : ea_X ids) : ∀ (x1 : Int32) (x2 : Int32) (x3 : Int32) (M : eM) (H : Heap) (locs : List Loc) (ls : Array Slot), fX10_drawThread_70 x1 x2 x3 M = some res → ea_w E ids M s H locs → lv_has ls 7 [(0, .ref (E.1 0)), (1, .int x1), (2, .int x2), (3, .int x3)] → W p l e (ea_rm 1 23) s m args below meth cd H locs 0 0 (MQ below (ea_Qi E ids res) args s 0 0 (ea_Ad E ids)) (F0 m 70 ls []) := by
  intro x1 x2 x3 M H locs ls hf  hw hl
  replace hf := (fX10_drawThread_70.eq_1 ..).symm.trans hf
  refine lv_iconst (v := 0) C.1 C.2.1 dX10_drawThread_70 (by decide) ?_
  exact wX10_drawThread_71 C hX _ _ _ _ _ _ _ _ hf hw (lv_sub hl [0, 1, 2, 3] rfl)
set_option maxHeartbeats 4000000 in
set_option maxRecDepth 20000 in
theorem wX10_drawThread_0 (C : ea_C p s m args meth cd cX10_drawThread 7 (some .int) RX10) (hX : ea_X ids) : ∀  (M : eM) (H : Heap) (locs : List Loc) (ls : Array Slot), fX10_drawThread_0 M = some res → ea_w E ids M s H locs → lv_has ls 7 [(0, .ref (E.1 0))] → W p l e (ea_rm 1 23) s m args below meth cd H locs 0 0 (MQ below (ea_Qi E ids res) args s 0 0 (ea_Ad E ids)) (F0 m 0 ls []) := by
  intro M H locs ls hf  hw hl
  replace hf := (fX10_drawThread_0.eq_1 ..).symm.trans hf
  refine lv_aload_n C.1 C.2.1 dX10_drawThread_0 rfl (lv_at hl 0 rfl) ?_
  refine gf_X10_24 C hw (hX 0 10 rfl) dX10_drawThread_1 ?_
  refine gf_X10_110 C hw (hX 4 9 rfl) dX10_drawThread_4 ?_
  obtain ⟨hc1, hf⟩ := ea_ck_s hf
  refine gf_X10_155 C hw (ea_dyn hX hc1) dX10_drawThread_7 ?_
  refine lv_istore_n (lv' := [(1, .int (M.1 (M.2.2 4 0) 8)), (0, .ref (E.1 0))]) C.1 C.2.1 dX10_drawThread_10 rfl hl (by decide) rfl (fun ls hl => ?_)
  refine lv_aload_n C.1 C.2.1 dX10_drawThread_11 rfl (lv_at hl 1 rfl) ?_
  refine gf_X10_81 C hw (hX 0 10 rfl) dX10_drawThread_12 ?_
  refine lv_iload_n C.1 C.2.1 dX10_drawThread_15 rfl (lv_at hl 0 rfl) ?_
  obtain ⟨r3, M4, he2, hf⟩ := ea_ci_s hf
  refine ea_runi2 hw (cl_X10_348 C hw (hX 78 0 rfl) (As := [.int (M.1 (M.2.2 4 0) 8)]) (rest := []) (mX0_draw (l := l) (E := E) (ids := ids) hX he2) (by decide) rfl hl.1 rfl (Nat.le_of_ble_eq_true rfl) dX10_drawThread_16 ⟨Nat.le_refl _, Nat.le_refl _⟩) (fun H locs hw => ?_)
  refine lv_istore_n (lv' := [(2, .int r3), (1, .int (M.1 (M.2.2 4 0) 8)), (0, .ref (E.1 0))]) C.1 C.2.1 dX10_drawThread_19 rfl hl (by decide) rfl (fun ls hl => ?_)
  refine lv_iload_n C.1 C.2.1 dX10_drawThread_20 rfl (lv_at hl 0 rfl) ?_
  refine lv_aload_n C.1 C.2.1 dX10_drawThread_21 rfl (lv_at hl 2 rfl) ?_
  refine gf_X10_81 C hw (hX 0 10 rfl) dX10_drawThread_22 ?_
  refine lv_bipush (v := 9) C.1 C.2.1 dX10_drawThread_25 (by decide) ?_
  obtain ⟨r6, M7, he5, hf⟩ := ea_ci_s hf
  refine ea_runi2 hw (cl_X10_348 C hw (hX 78 0 rfl) (As := [.int (9 : Int32)]) (rest := [.int r3]) (mX0_draw (l := l) (E := E) (ids := ids) hX he5) (by decide) rfl hl.1 rfl (Nat.le_of_ble_eq_true rfl) dX10_drawThread_27 ⟨Nat.le_refl _, Nat.le_refl _⟩) (fun H locs hw => ?_)
  refine lv_iconst (v := 1) C.1 C.2.1 dX10_drawThread_30 (by decide) ?_
  refine lv_iadd C.1 C.2.1 dX10_drawThread_31 ?_
  obtain ⟨r9, M10, he8, hf⟩ := ea_ci_s hf
  refine ea_runi2 hw (cl_X10_177 C hw (As := [.int r3, .int (r6 + (1 : Int32))]) (rest := []) (mX9_rowOf (l := l) (E := E) (ids := ids) hX he8) (by decide) rfl hl.1 rfl (Nat.le_of_ble_eq_true rfl) dX10_drawThread_32 ⟨Nat.le_refl _, Nat.le_refl _⟩) (fun H locs hw => ?_)
  refine lv_istore_n (lv' := [(3, .int r9), (2, .int r3), (1, .int (M.1 (M.2.2 4 0) 8)), (0, .ref (E.1 0))]) C.1 C.2.1 dX10_drawThread_35 rfl hl (by decide) rfl (fun ls hl => ?_)
  refine lv_aload_n C.1 C.2.1 dX10_drawThread_36 rfl (lv_at hl 3 rfl) ?_
  refine gf_X10_81 C hw (hX 0 10 rfl) dX10_drawThread_37 ?_
  refine lv_iconst (v := 3) C.1 C.2.1 dX10_drawThread_40 (by decide) ?_
  obtain ⟨r12, M13, he11, hf⟩ := ea_ci_s hf
  refine ea_runi2 hw (cl_X10_348 C hw (hX 78 0 rfl) (As := [.int (3 : Int32)]) (rest := []) (mX0_draw (l := l) (E := E) (ids := ids) hX he11) (by decide) rfl hl.1 rfl (Nat.le_of_ble_eq_true rfl) dX10_drawThread_41 ⟨Nat.le_refl _, Nat.le_refl _⟩) (fun H locs hw => ?_)
  refine lv_if_ne (tgt := 70) C.1 C.2.1 dX10_drawThread_44 (by decide) (fun hc14 => ?_) (fun hc14 => ?_)
  · replace hf := ea_if_f hc14 hf
    exact wX10_drawThread_70 C hX _ _ _ _ _ _ _ hf hw (lv_sub hl [3, 2, 1, 0] rfl)
  · replace hf := ea_if_t hc14 hf
    refine lv_iload_n C.1 C.2.1 dX10_drawThread_47 rfl (lv_at hl 2 rfl) ?_
    refine lv_iconst (v := 1) C.1 C.2.1 dX10_drawThread_48 (by decide) ?_
    refine lv_icmp_le (tgt := 70) C.1 C.2.1 dX10_drawThread_49 (by decide) (fun hc15 => ?_) (fun hc15 => ?_)
    · replace hf := ea_if_t hc15 hf
      exact wX10_drawThread_70 C hX _ _ _ _ _ _ _ hf hw (lv_sub hl [3, 2, 1, 0] rfl)
    · replace hf := ea_if_f hc15 hf
      refine lv_aload_n C.1 C.2.1 dX10_drawThread_52 rfl (lv_at hl 3 rfl) ?_
      refine gf_X10_24 C hw (hX 0 10 rfl) dX10_drawThread_53 ?_
      refine gf_X10_110 C hw (hX 4 9 rfl) dX10_drawThread_56 ?_
      obtain ⟨hc16, hf⟩ := ea_ck_s hf
      refine gf_X10_382 C hw (ea_dyn hX hc16) dX10_drawThread_59 ?_
      refine lv_iconst (v := 2) C.1 C.2.1 dX10_drawThread_62 (by decide) ?_
      refine lv_icmp_ne (tgt := 70) C.1 C.2.1 dX10_drawThread_63 (by decide) (fun hc17 => ?_) (fun hc17 => ?_)
      · replace hf := ea_if_f hc17 hf
        exact wX10_drawThread_70 C hX _ _ _ _ _ _ _ hf hw (lv_sub hl [3, 2, 1, 0] rfl)
      · replace hf := ea_if_t hc17 hf
        refine lv_iconst (v := 1) C.1 C.2.1 dX10_drawThread_66 (by decide) ?_
        refine lv_goto (tgt := 71) C.1 C.2.1 dX10_drawThread_67 (by decide) ?_
        exact wX10_drawThread_71 C hX _ _ _ _ _ _ _ _ hf hw (lv_sub hl [3, 2, 1, 0] rfl)
set_option maxHeartbeats 4000000 in
set_option maxRecDepth 20000 in
theorem mX10_drawThread {l : Launch} {E : eE} {ids : List Nat} (hX : ea_X ids) {M : eM} {res : Int32 × eM} (hf : fX10_drawThread M = some res) : ea_Mi l yX10_drawThread cX10_drawThread 7 (some .int) 1 23 E ids [.ref (E.1 0)] M res := by
  refine ea_goi (by decide) (Nat.le_of_ble_eq_true rfl) wc_X10_drawThread ?_
  intro p e s m below meth cd ls C hw hl
  exact wX10_drawThread_0 C hX  _ _ _ _ hf hw hl
end SX10_drawThread

def fX10_end_0 (x1 : Int32) (M : eM) : Option (Int32 × eM) := if x1 < 0 then (some ((-1 : Int32), M)) else (if x1 ≤ (M.1 1 1) then (some (x1, ea_pI M 1 1 x1)) else (some ((-1 : Int32), M)))
def fX10_end (x1 : Int32) (M : eM) : Option (Int32 × eM) := fX10_end_0 x1 M
section SX10_end
variable {p : Program} {l : Launch} {e : Env} {s : State} {m : MethodId} {args : Array Value} {below : List Frame} {meth : Method} {cd : Code} {E : eE} {ids : List Nat} {res : Int32 × eM}
set_option maxHeartbeats 4000000 in
set_option maxRecDepth 20000 in
theorem wX10_end_0 (C : ea_C p s m args meth cd cX10_end 2 (some .int) RX10) (hX : ea_X ids) : ∀ (x1 : Int32) (M : eM) (H : Heap) (locs : List Loc) (ls : Array Slot), fX10_end_0 x1 M = some res → ea_w E ids M s H locs → lv_has ls 2 [(0, .ref (E.1 0)), (1, .int x1)] → W p l e (ea_rm 0 0) s m args below meth cd H locs 0 0 (MQ below (ea_Qi E ids res) args s 0 0 (ea_Ad E ids)) (F0 m 0 ls []) := by
  intro x1 M H locs ls hf  hw hl
  replace hf := (fX10_end_0.eq_1 ..).symm.trans hf
  refine lv_iload_n C.1 C.2.1 dX10_end_0 rfl (lv_at hl 1 rfl) ?_
  refine lv_if_lt (tgt := 15) C.1 C.2.1 dX10_end_1 (by decide) (fun hc1 => ?_) (fun hc1 => ?_)
  · replace hf := ea_if_t hc1 hf
    refine lv_iconst (v := (-1 : Int32)) C.1 C.2.1 dX10_end_15 (by decide) ?_
    exact ea_iret C hw hf dX10_end_16
  · replace hf := ea_if_f hc1 hf
    refine lv_iload_n C.1 C.2.1 dX10_end_4 rfl (lv_at hl 1 rfl) ?_
    refine lv_aload_n C.1 C.2.1 dX10_end_5 rfl (lv_at hl 0 rfl) ?_
    refine gf_X10_10 C hw (hX 0 10 rfl) dX10_end_6 ?_
    refine gf_X10_89 C hw (hX 1 7 rfl) dX10_end_9 ?_
    refine lv_icmp_le (tgt := 17) C.1 C.2.1 dX10_end_12 (by decide) (fun hc2 => ?_) (fun hc2 => ?_)
    · replace hf := ea_if_t hc2 hf
      refine lv_aload_n C.1 C.2.1 dX10_end_17 rfl (lv_at hl 0 rfl) ?_
      refine gf_X10_10 C hw (hX 0 10 rfl) dX10_end_18 ?_
      refine lv_iload_n C.1 C.2.1 dX10_end_21 rfl (lv_at hl 1 rfl) ?_
      refine pu_X10_89 C hw (hX 1 7 rfl) dX10_end_22 (fun H locs hw => ?_)
      refine lv_iload_n C.1 C.2.1 dX10_end_25 rfl (lv_at hl 1 rfl) ?_
      exact ea_iret C hw hf dX10_end_26
    · replace hf := ea_if_f hc2 hf
      refine lv_iconst (v := (-1 : Int32)) C.1 C.2.1 dX10_end_15 (by decide) ?_
      exact ea_iret C hw hf dX10_end_16
set_option maxHeartbeats 4000000 in
set_option maxRecDepth 20000 in
theorem mX10_end {l : Launch} {E : eE} {ids : List Nat} (hX : ea_X ids) {x1 : Int32} {M : eM} {res : Int32 × eM} (hf : fX10_end x1 M = some res) : ea_Mi l yX10_end cX10_end 2 (some .int) 0 0 E ids [.ref (E.1 0), .int x1] M res := by
  refine ea_goi (by decide) (Nat.le_of_ble_eq_true rfl) wc_X10_end ?_
  intro p e s m below meth cd ls C hw hl
  exact wX10_end_0 C hX _ _ _ _ _ hf hw hl
end SX10_end

def fX10_fault_0 (x1 : Int32) (M : eM) : Option (Int32 × eM) := if x1 = 0 then (some (M.1 3 0, M)) else (if x1 = (1 : Int32) then (some (M.1 3 1, M)) else (some ((-1 : Int32), M)))
def fX10_fault (x1 : Int32) (M : eM) : Option (Int32 × eM) := fX10_fault_0 x1 M
section SX10_fault
variable {p : Program} {l : Launch} {e : Env} {s : State} {m : MethodId} {args : Array Value} {below : List Frame} {meth : Method} {cd : Code} {E : eE} {ids : List Nat} {res : Int32 × eM}
set_option maxHeartbeats 4000000 in
set_option maxRecDepth 20000 in
theorem wX10_fault_0 (C : ea_C p s m args meth cd cX10_fault 2 (some .int) RX10) (hX : ea_X ids) : ∀ (x1 : Int32) (M : eM) (H : Heap) (locs : List Loc) (ls : Array Slot), fX10_fault_0 x1 M = some res → ea_w E ids M s H locs → lv_has ls 2 [(0, .ref (E.1 0)), (1, .int x1)] → W p l e (ea_rm 0 0) s m args below meth cd H locs 0 0 (MQ below (ea_Qi E ids res) args s 0 0 (ea_Ad E ids)) (F0 m 0 ls []) := by
  intro x1 M H locs ls hf  hw hl
  replace hf := (fX10_fault_0.eq_1 ..).symm.trans hf
  refine lv_iload_n C.1 C.2.1 dX10_fault_0 rfl (lv_at hl 1 rfl) ?_
  refine lv_if_ne (tgt := 12) C.1 C.2.1 dX10_fault_1 (by decide) (fun hc1 => ?_) (fun hc1 => ?_)
  · replace hf := ea_if_f hc1 hf
    refine lv_iload_n C.1 C.2.1 dX10_fault_12 rfl (lv_at hl 1 rfl) ?_
    refine lv_iconst (v := 1) C.1 C.2.1 dX10_fault_13 (by decide) ?_
    refine lv_icmp_ne (tgt := 27) C.1 C.2.1 dX10_fault_14 (by decide) (fun hc2 => ?_) (fun hc2 => ?_)
    · replace hf := ea_if_f hc2 hf
      refine lv_iconst (v := (-1 : Int32)) C.1 C.2.1 dX10_fault_27 (by decide) ?_
      exact ea_iret C hw hf dX10_fault_28
    · replace hf := ea_if_t hc2 hf
      refine lv_aload_n C.1 C.2.1 dX10_fault_17 rfl (lv_at hl 0 rfl) ?_
      refine gf_X10_37 C hw (hX 0 10 rfl) dX10_fault_18 ?_
      refine gf_X10_126 C hw (hX 3 2 rfl) dX10_fault_21 ?_
      refine lv_goto (tgt := 28) C.1 C.2.1 dX10_fault_24 (by decide) ?_
      exact ea_iret C hw hf dX10_fault_28
  · replace hf := ea_if_t hc1 hf
    refine lv_aload_n C.1 C.2.1 dX10_fault_4 rfl (lv_at hl 0 rfl) ?_
    refine gf_X10_37 C hw (hX 0 10 rfl) dX10_fault_5 ?_
    refine gf_X10_123 C hw (hX 3 2 rfl) dX10_fault_8 ?_
    exact ea_iret C hw hf dX10_fault_11
set_option maxHeartbeats 4000000 in
set_option maxRecDepth 20000 in
theorem mX10_fault {l : Launch} {E : eE} {ids : List Nat} (hX : ea_X ids) {x1 : Int32} {M : eM} {res : Int32 × eM} (hf : fX10_fault x1 M = some res) : ea_Mi l yX10_fault cX10_fault 2 (some .int) 0 0 E ids [.ref (E.1 0), .int x1] M res := by
  refine ea_goi (by decide) (Nat.le_of_ble_eq_true rfl) wc_X10_fault ?_
  intro p e s m below meth cd ls C hw hl
  exact wX10_fault_0 C hX _ _ _ _ _ hf hw hl
end SX10_fault

def fX7_addFour_3 : Nat → Int32 → Int32 → eM → Option (eM)
  | 0, _, _, _ => none
  | n + 1, x1, x2, M => if x2 < 0 then (some M) else (if (900 : Int32) ≤ (M.1 1 1) then (some M) else (ea_ck (ea_ix (M.1 1 1) (ea_len 2)) (fX7_addFour_3 n x1 (x2 + (-8 : Int32)) (ea_pI (ea_pI M 2 ((M.1 1 1).toNatClampNeg) (vp_nar .byte ((x1 >>> (x2 &&& 31)).toInt8.toInt32))) 1 1 (((ea_pI M 2 ((M.1 1 1).toNatClampNeg) (vp_nar .byte ((x1 >>> (x2 &&& 31)).toInt8.toInt32))).1 1 1) + (1 : Int32))))))
def fX7_addFour_0 (x1 : Int32) (M : eM) : Option (eM) := fX7_addFour_3 ea_N x1 (24 : Int32) M
def fX7_addFour (x1 : Int32) (M : eM) : Option (eM) := fX7_addFour_0 x1 M
section SX7_addFour
variable {p : Program} {l : Launch} {e : Env} {s : State} {m : MethodId} {args : Array Value} {below : List Frame} {meth : Method} {cd : Code} {E : eE} {ids : List Nat} {res : eM}
set_option maxHeartbeats 4000000 in
set_option maxRecDepth 20000 in
theorem wX7_addFour_3 (C : ea_C p s m args meth cd cX7_addFour 3 none RX7) (hX : ea_X ids) : ∀ (n : Nat) (x1 : Int32) (x2 : Int32) (M : eM) (H : Heap) (locs : List Loc) (ls : Array Slot), fX7_addFour_3 n x1 x2 M = some res → ea_w E ids M s H locs → lv_has ls 3 [(0, .ref (E.1 1)), (1, .int x1), (2, .int x2)] → W p l e (ea_rm 0 0) s m args below meth cd H locs 0 0 (MQ below (ea_Qv E ids res) args s 0 0 (ea_Ad E ids)) (F0 m 3 ls []) := by
  intro n
  induction n with
  | zero => intro x1 x2 M H locs ls hf; cases hf
  | succ n ih =>
    intro x1 x2 M H locs ls hf  hw hl
    replace hf := (fX7_addFour_3.eq_2 ..).symm.trans hf
    refine lv_iload_n C.1 C.2.1 dX7_addFour_3 rfl (lv_at hl 2 rfl) ?_
    refine lv_if_lt (tgt := 46) C.1 C.2.1 dX7_addFour_4 (by decide) (fun hc1 => ?_) (fun hc1 => ?_)
    · replace hf := ea_if_t hc1 hf
      exact ea_vret C hw hf dX7_addFour_46
    · replace hf := ea_if_f hc1 hf
      refine lv_aload_n C.1 C.2.1 dX7_addFour_7 rfl (lv_at hl 0 rfl) ?_
      refine gf_X7_13 C hw (hX 1 7 rfl) dX7_addFour_8 ?_
      refine lv_sipush (v := 900) C.1 C.2.1 dX7_addFour_11 (by decide) ?_
      refine lv_icmp_ge (tgt := 46) C.1 C.2.1 dX7_addFour_14 (by decide) (fun hc2 => ?_) (fun hc2 => ?_)
      · replace hf := ea_if_t hc2 hf
        exact ea_vret C hw hf dX7_addFour_46
      · replace hf := ea_if_f hc2 hf
        refine lv_aload_n C.1 C.2.1 dX7_addFour_17 rfl (lv_at hl 0 rfl) ?_
        refine gf_X7_9 C hw (hX 1 7 rfl) dX7_addFour_18 ?_
        refine W.eq (g2 := F0 m 21 ls [.ref (E.1 2)]) rfl ?_
        refine lv_aload_n C.1 C.2.1 dX7_addFour_21 rfl (lv_at hl 0 rfl) ?_
        refine gf_X7_13 C hw (hX 1 7 rfl) dX7_addFour_22 ?_
        refine lv_iload_n C.1 C.2.1 dX7_addFour_25 rfl (lv_at hl 1 rfl) ?_
        refine lv_iload_n C.1 C.2.1 dX7_addFour_26 rfl (lv_at hl 2 rfl) ?_
        refine lv_ishr C.1 C.2.1 dX7_addFour_27 ?_
        refine lv_i2b C.1 C.2.1 dX7_addFour_28 rfl ?_
        obtain ⟨hc3, hf⟩ := ea_ck_s hf
        refine ea_bast C hw (show ea_ok ids 2 22 from ok_7_0 (hX 1 7 rfl)) hc3 dX7_addFour_29 (fun H locs hw => ?_)
        refine lv_aload_n C.1 C.2.1 dX7_addFour_30 rfl (lv_at hl 0 rfl) ?_
        refine lv_dup C.1 C.2.1 dX7_addFour_31 rfl ?_
        refine gf_X7_13 C hw (hX 1 7 rfl) dX7_addFour_32 ?_
        refine lv_iconst (v := 1) C.1 C.2.1 dX7_addFour_35 (by decide) ?_
        refine lv_iadd C.1 C.2.1 dX7_addFour_36 ?_
        refine pu_X7_13 C hw (hX 1 7 rfl) dX7_addFour_37 (fun H locs hw => ?_)
        refine lv_iinc (v := x2 + (-8 : Int32)) (lv' := [(2, .int (x2 + (-8 : Int32))), (0, .ref (E.1 1)), (1, .int x1)]) C.1 C.2.1 dX7_addFour_40 hl (k := 2) rfl rfl (by decide) rfl (fun ls hl => ?_)
        refine lv_goto (tgt := 3) C.1 C.2.1 dX7_addFour_43 (by decide) ?_
        exact ih _ _ _ _ _ _ hf hw (lv_sub hl [1, 2, 0] rfl)
set_option maxHeartbeats 4000000 in
set_option maxRecDepth 20000 in
theorem wX7_addFour_0 (C : ea_C p s m args meth cd cX7_addFour 3 none RX7) (hX : ea_X ids) : ∀ (x1 : Int32) (M : eM) (H : Heap) (locs : List Loc) (ls : Array Slot), fX7_addFour_0 x1 M = some res → ea_w E ids M s H locs → lv_has ls 3 [(0, .ref (E.1 1)), (1, .int x1)] → W p l e (ea_rm 0 0) s m args below meth cd H locs 0 0 (MQ below (ea_Qv E ids res) args s 0 0 (ea_Ad E ids)) (F0 m 0 ls []) := by
  intro x1 M H locs ls hf  hw hl
  replace hf := (fX7_addFour_0.eq_1 ..).symm.trans hf
  refine lv_bipush (v := 24) C.1 C.2.1 dX7_addFour_0 (by decide) ?_
  refine lv_istore_n (lv' := [(2, .int (24 : Int32)), (0, .ref (E.1 1)), (1, .int x1)]) C.1 C.2.1 dX7_addFour_2 rfl hl (by decide) rfl (fun ls hl => ?_)
  exact wX7_addFour_3 C hX ea_N _ _ _ _ _ _ hf hw (lv_sub hl [1, 2, 0] rfl)
set_option maxHeartbeats 4000000 in
set_option maxRecDepth 20000 in
theorem mX7_addFour {l : Launch} {E : eE} {ids : List Nat} (hX : ea_X ids) {x1 : Int32} {M : eM} {res : eM} (hf : fX7_addFour x1 M = some res) : ea_Mv l yX7_addFour cX7_addFour 3 0 0 E ids [.ref (E.1 1), .int x1] M res := by
  refine ea_gov (by decide) (Nat.le_of_ble_eq_true rfl) wc_X7_addFour ?_
  intro p e s m below meth cd ls C hw hl
  exact wX7_addFour_0 C hX _ _ _ _ _ hf hw hl
end SX7_addFour

def fX10_feed_0 (x1 : Int32) (x2 : Int32) (x3 : Int32) (x4 : Int32) (x5 : Int32) (M : eM) : Option (Int32 × eM) := if ((M.1 1 1) + (20 : Int32)) ≤ (900 : Int32) then (ea_cv (fX7_addFour x1 M) (fun M3 => ea_cv (fX7_addFour x2 M3) (fun M5 => ea_cv (fX7_addFour x3 M5) (fun M7 => ea_cv (fX7_addFour x4 M7) (fun M9 => ea_cv (fX7_addFour x5 M9) (fun M11 => some (M11.1 1 1, M11))))))) else (some ((-3 : Int32), M))
def fX10_feed (x1 : Int32) (x2 : Int32) (x3 : Int32) (x4 : Int32) (x5 : Int32) (M : eM) : Option (Int32 × eM) := fX10_feed_0 x1 x2 x3 x4 x5 M
section SX10_feed
variable {p : Program} {l : Launch} {e : Env} {s : State} {m : MethodId} {args : Array Value} {below : List Frame} {meth : Method} {cd : Code} {E : eE} {ids : List Nat} {res : Int32 × eM}
set_option maxHeartbeats 4000000 in
set_option maxRecDepth 20000 in
theorem wX10_feed_0 (C : ea_C p s m args meth cd cX10_feed 6 (some .int) RX10) (hX : ea_X ids) : ∀ (x1 : Int32) (x2 : Int32) (x3 : Int32) (x4 : Int32) (x5 : Int32) (M : eM) (H : Heap) (locs : List Loc) (ls : Array Slot), fX10_feed_0 x1 x2 x3 x4 x5 M = some res → ea_w E ids M s H locs → lv_has ls 6 [(0, .ref (E.1 0)), (1, .int x1), (2, .int x2), (3, .int x3), (4, .int x4), (5, .int x5)] → W p l e (ea_rm 1 22) s m args below meth cd H locs 0 0 (MQ below (ea_Qi E ids res) args s 0 0 (ea_Ad E ids)) (F0 m 0 ls []) := by
  intro x1 x2 x3 x4 x5 M H locs ls hf  hw hl
  replace hf := (fX10_feed_0.eq_1 ..).symm.trans hf
  refine lv_aload_n C.1 C.2.1 dX10_feed_0 rfl (lv_at hl 0 rfl) ?_
  refine gf_X10_10 C hw (hX 0 10 rfl) dX10_feed_1 ?_
  refine gf_X10_89 C hw (hX 1 7 rfl) dX10_feed_4 ?_
  refine lv_bipush (v := 20) C.1 C.2.1 dX10_feed_7 (by decide) ?_
  refine lv_iadd C.1 C.2.1 dX10_feed_9 ?_
  refine lv_sipush (v := 900) C.1 C.2.1 dX10_feed_10 (by decide) ?_
  refine lv_icmp_le (tgt := 19) C.1 C.2.1 dX10_feed_13 (by decide) (fun hc1 => ?_) (fun hc1 => ?_)
  · replace hf := ea_if_t hc1 hf
    refine lv_aload_n C.1 C.2.1 dX10_feed_19 rfl (lv_at hl 0 rfl) ?_
    refine gf_X10_10 C hw (hX 0 10 rfl) dX10_feed_20 ?_
    refine lv_iload_n C.1 C.2.1 dX10_feed_23 rfl (lv_at hl 1 rfl) ?_
    obtain ⟨M3, he2, hf⟩ := ea_cv_s hf
    refine ea_runv hw (cl_X10_93 C hw (hX 1 7 rfl) (As := [.int x1]) (rest := []) (mX7_addFour (l := l) (E := E) (ids := ids) hX he2) (by decide) rfl hl.1 rfl (Nat.le_of_ble_eq_true rfl) dX10_feed_24 ⟨Nat.le_refl _, Nat.le_refl _⟩) (fun H locs hw => ?_)
    refine lv_aload_n C.1 C.2.1 dX10_feed_27 rfl (lv_at hl 0 rfl) ?_
    refine gf_X10_10 C hw (hX 0 10 rfl) dX10_feed_28 ?_
    refine lv_iload_n C.1 C.2.1 dX10_feed_31 rfl (lv_at hl 2 rfl) ?_
    obtain ⟨M5, he4, hf⟩ := ea_cv_s hf
    refine ea_runv hw (cl_X10_93 C hw (hX 1 7 rfl) (As := [.int x2]) (rest := []) (mX7_addFour (l := l) (E := E) (ids := ids) hX he4) (by decide) rfl hl.1 rfl (Nat.le_of_ble_eq_true rfl) dX10_feed_32 ⟨Nat.le_refl _, Nat.le_refl _⟩) (fun H locs hw => ?_)
    refine lv_aload_n C.1 C.2.1 dX10_feed_35 rfl (lv_at hl 0 rfl) ?_
    refine gf_X10_10 C hw (hX 0 10 rfl) dX10_feed_36 ?_
    refine lv_iload_n C.1 C.2.1 dX10_feed_39 rfl (lv_at hl 3 rfl) ?_
    obtain ⟨M7, he6, hf⟩ := ea_cv_s hf
    refine ea_runv hw (cl_X10_93 C hw (hX 1 7 rfl) (As := [.int x3]) (rest := []) (mX7_addFour (l := l) (E := E) (ids := ids) hX he6) (by decide) rfl hl.1 rfl (Nat.le_of_ble_eq_true rfl) dX10_feed_40 ⟨Nat.le_refl _, Nat.le_refl _⟩) (fun H locs hw => ?_)
    refine lv_aload_n C.1 C.2.1 dX10_feed_43 rfl (lv_at hl 0 rfl) ?_
    refine gf_X10_10 C hw (hX 0 10 rfl) dX10_feed_44 ?_
    refine lv_iload C.1 C.2.1 dX10_feed_47 (lv_at hl 4 rfl) ?_
    obtain ⟨M9, he8, hf⟩ := ea_cv_s hf
    refine ea_runv hw (cl_X10_93 C hw (hX 1 7 rfl) (As := [.int x4]) (rest := []) (mX7_addFour (l := l) (E := E) (ids := ids) hX he8) (by decide) rfl hl.1 rfl (Nat.le_of_ble_eq_true rfl) dX10_feed_49 ⟨Nat.le_refl _, Nat.le_refl _⟩) (fun H locs hw => ?_)
    refine lv_aload_n C.1 C.2.1 dX10_feed_52 rfl (lv_at hl 0 rfl) ?_
    refine gf_X10_10 C hw (hX 0 10 rfl) dX10_feed_53 ?_
    refine lv_iload C.1 C.2.1 dX10_feed_56 (lv_at hl 5 rfl) ?_
    obtain ⟨M11, he10, hf⟩ := ea_cv_s hf
    refine ea_runv hw (cl_X10_93 C hw (hX 1 7 rfl) (As := [.int x5]) (rest := []) (mX7_addFour (l := l) (E := E) (ids := ids) hX he10) (by decide) rfl hl.1 rfl (Nat.le_of_ble_eq_true rfl) dX10_feed_58 ⟨Nat.le_refl _, Nat.le_refl _⟩) (fun H locs hw => ?_)
    refine lv_aload_n C.1 C.2.1 dX10_feed_61 rfl (lv_at hl 0 rfl) ?_
    refine gf_X10_10 C hw (hX 0 10 rfl) dX10_feed_62 ?_
    refine gf_X10_89 C hw (hX 1 7 rfl) dX10_feed_65 ?_
    exact ea_iret C hw hf dX10_feed_68
  · replace hf := ea_if_f hc1 hf
    refine lv_bipush (v := (-3 : Int32)) C.1 C.2.1 dX10_feed_16 (by decide) ?_
    exact ea_iret C hw hf dX10_feed_18
set_option maxHeartbeats 4000000 in
set_option maxRecDepth 20000 in
theorem mX10_feed {l : Launch} {E : eE} {ids : List Nat} (hX : ea_X ids) {x1 : Int32} {x2 : Int32} {x3 : Int32} {x4 : Int32} {x5 : Int32} {M : eM} {res : Int32 × eM} (hf : fX10_feed x1 x2 x3 x4 x5 M = some res) : ea_Mi l yX10_feed cX10_feed 6 (some .int) 1 22 E ids [.ref (E.1 0), .int x1, .int x2, .int x3, .int x4, .int x5] M res := by
  refine ea_goi (by decide) (Nat.le_of_ble_eq_true rfl) wc_X10_feed ?_
  intro p e s m below meth cd ls C hw hl
  exact wX10_feed_0 C hX _ _ _ _ _ _ _ _ _ hf hw hl
end SX10_feed

def fX10_fit_0 (x1 : Int32) (x2 : Int32) (x3 : Int32) (x4 : Int32) (M : eM) : Option (Int32 × eM) := ea_ci (fX10_mayFit x1 x2 x3 M) (fun r2 M3 => if r2 = 0 then (some ((-2 : Int32), M3)) else (ea_ci (fX10_isWithin x4 (0 : Int32) (3 : Int32) M3) (fun r6 M7 => if r6 = 0 then (some ((-2 : Int32), M7)) else (ea_cv (fX3_find 50 x1 x2 x3 M7) (fun M10 => if x4 = (0 : Int32) then (some (M10.1 50 6, M10)) else (if x4 = (1 : Int32) then (some (M10.1 50 8, M10)) else (if x4 = (2 : Int32) then (some (M10.1 50 9, M10)) else (ea_ci (fX3_pairPart 50 (0 : Int32) (0 : Int32) M10) (fun r15 M16 => some (r15, M16))))))))))
def fX10_fit (x1 : Int32) (x2 : Int32) (x3 : Int32) (x4 : Int32) (M : eM) : Option (Int32 × eM) := fX10_fit_0 x1 x2 x3 x4 M
section SX10_fit
variable {p : Program} {l : Launch} {e : Env} {s : State} {m : MethodId} {args : Array Value} {below : List Frame} {meth : Method} {cd : Code} {E : eE} {ids : List Nat} {res : Int32 × eM}
set_option maxHeartbeats 4000000 in
set_option maxRecDepth 20000 in
theorem wX10_fit_0 (C : ea_C p s m args meth cd cX10_fit 5 (some .int) RX10) (hX : ea_X ids) : ∀ (x1 : Int32) (x2 : Int32) (x3 : Int32) (x4 : Int32) (M : eM) (H : Heap) (locs : List Loc) (ls : Array Slot), fX10_fit_0 x1 x2 x3 x4 M = some res → ea_w E ids M s H locs → lv_has ls 5 [(0, .ref (E.1 0)), (1, .int x1), (2, .int x2), (3, .int x3), (4, .int x4)] → W p l e (ea_rm 4 103) s m args below meth cd H locs 0 0 (MQ below (ea_Qi E ids res) args s 0 0 (ea_Ad E ids)) (F0 m 0 ls []) := by
  intro x1 x2 x3 x4 M H locs ls hf  hw hl
  replace hf := (fX10_fit_0.eq_1 ..).symm.trans hf
  refine lv_aload_n C.1 C.2.1 dX10_fit_0 rfl (lv_at hl 0 rfl) ?_
  refine lv_iload_n C.1 C.2.1 dX10_fit_1 rfl (lv_at hl 1 rfl) ?_
  refine lv_iload_n C.1 C.2.1 dX10_fit_2 rfl (lv_at hl 2 rfl) ?_
  refine lv_iload_n C.1 C.2.1 dX10_fit_3 rfl (lv_at hl 3 rfl) ?_
  obtain ⟨r2, M3, he1, hf⟩ := ea_ci_s hf
  refine ea_runi2 hw (cl_X10_238 C hw (hX 0 10 rfl) (As := [.int x1, .int x2, .int x3]) (rest := []) (mX10_mayFit (l := l) (E := E) (ids := ids) hX he1) (by decide) rfl hl.1 rfl (Nat.le_of_ble_eq_true rfl) dX10_fit_4 ⟨Nat.le_refl _, Nat.le_refl _⟩) (fun H locs hw => ?_)
  refine lv_if_eq (tgt := 20) C.1 C.2.1 dX10_fit_7 (by decide) (fun hc4 => ?_) (fun hc4 => ?_)
  · replace hf := ea_if_t hc4 hf
    refine lv_bipush (v := (-2 : Int32)) C.1 C.2.1 dX10_fit_20 (by decide) ?_
    exact ea_iret C hw hf dX10_fit_22
  · replace hf := ea_if_f hc4 hf
    refine lv_iload C.1 C.2.1 dX10_fit_10 (lv_at hl 4 rfl) ?_
    refine lv_iconst (v := 0) C.1 C.2.1 dX10_fit_12 (by decide) ?_
    refine lv_iconst (v := 3) C.1 C.2.1 dX10_fit_13 (by decide) ?_
    obtain ⟨r6, M7, he5, hf⟩ := ea_ci_s hf
    refine ea_runi2 hw (cl_X10_133 C hw (As := [.int x4, .int (0 : Int32), .int (3 : Int32)]) (rest := []) (mX10_isWithin (l := l) (E := E) (ids := ids) hX he5) (by decide) rfl hl.1 rfl (Nat.le_of_ble_eq_true rfl) dX10_fit_14 ⟨Nat.le_refl _, Nat.le_refl _⟩) (fun H locs hw => ?_)
    refine lv_if_ne (tgt := 23) C.1 C.2.1 dX10_fit_17 (by decide) (fun hc8 => ?_) (fun hc8 => ?_)
    · replace hf := ea_if_f hc8 hf
      refine lv_aload_n C.1 C.2.1 dX10_fit_23 rfl (lv_at hl 0 rfl) ?_
      refine gf_X10_57 C hw (hX 0 10 rfl) dX10_fit_24 ?_
      refine lv_iload_n C.1 C.2.1 dX10_fit_27 rfl (lv_at hl 1 rfl) ?_
      refine lv_iload_n C.1 C.2.1 dX10_fit_28 rfl (lv_at hl 2 rfl) ?_
      refine lv_iload_n C.1 C.2.1 dX10_fit_29 rfl (lv_at hl 3 rfl) ?_
      obtain ⟨M10, he9, hf⟩ := ea_cv_s hf
      refine ea_runv hw (cl_X10_241 C hw (hX 50 3 rfl) (As := [.int x1, .int x2, .int x3]) (rest := []) (mX3_find (l := l) (E := E) (ids := ids) hX (hX 50 3 rfl) he9) (by decide) rfl hl.1 rfl (Nat.le_of_ble_eq_true rfl) dX10_fit_30 ⟨Nat.le_refl _, Nat.le_refl _⟩) (fun H locs hw => ?_)
      refine lv_iload C.1 C.2.1 dX10_fit_33 (lv_at hl 4 rfl) ?_
      by_cases hc11 : x4 = (0 : Int32)
      · replace hf := ea_if_t hc11 hf
        refine lv_tableIn (tgt := 60) C.1 C.2.1 dX10_fit_35 (by rw [hc11]; decide) (by rw [hc11]; decide) (by rw [hc11]; rfl) (by decide) ?_
        refine lv_aload_n C.1 C.2.1 dX10_fit_60 rfl (lv_at hl 0 rfl) ?_
        refine gf_X10_57 C hw (hX 0 10 rfl) dX10_fit_61 ?_
        refine gf_X10_245 C hw (hX 50 3 rfl) dX10_fit_64 ?_
        exact ea_iret C hw hf dX10_fit_67
      · replace hf := ea_if_f hc11 hf
        by_cases hc12 : x4 = (1 : Int32)
        · replace hf := ea_if_t hc12 hf
          refine lv_tableIn (tgt := 68) C.1 C.2.1 dX10_fit_35 (by rw [hc12]; decide) (by rw [hc12]; decide) (by rw [hc12]; rfl) (by decide) ?_
          refine lv_aload_n C.1 C.2.1 dX10_fit_68 rfl (lv_at hl 0 rfl) ?_
          refine gf_X10_57 C hw (hX 0 10 rfl) dX10_fit_69 ?_
          refine gf_X10_248 C hw (hX 50 3 rfl) dX10_fit_72 ?_
          exact ea_iret C hw hf dX10_fit_75
        · replace hf := ea_if_f hc12 hf
          by_cases hc13 : x4 = (2 : Int32)
          · replace hf := ea_if_t hc13 hf
            refine lv_tableIn (tgt := 76) C.1 C.2.1 dX10_fit_35 (by rw [hc13]; decide) (by rw [hc13]; decide) (by rw [hc13]; rfl) (by decide) ?_
            refine lv_aload_n C.1 C.2.1 dX10_fit_76 rfl (lv_at hl 0 rfl) ?_
            refine gf_X10_57 C hw (hX 0 10 rfl) dX10_fit_77 ?_
            refine gf_X10_251 C hw (hX 50 3 rfl) dX10_fit_80 ?_
            exact ea_iret C hw hf dX10_fit_83
          · replace hf := ea_if_f hc13 hf
            refine lv_tableOut (tgt := 84) C.1 C.2.1 dX10_fit_35 (by have e0 : x4.toInt ≠ 0 := fun q => hc11 (Int32.toInt_inj.mp q); have e1 : x4.toInt ≠ 1 := fun q => hc12 (Int32.toInt_inj.mp q); have e2 : x4.toInt ≠ 2 := fun q => hc13 (Int32.toInt_inj.mp q); omega) (by decide) ?_
            refine lv_aload_n C.1 C.2.1 dX10_fit_84 rfl (lv_at hl 0 rfl) ?_
            refine gf_X10_57 C hw (hX 0 10 rfl) dX10_fit_85 ?_
            refine lv_iconst (v := 0) C.1 C.2.1 dX10_fit_88 (by decide) ?_
            refine lv_iconst (v := 0) C.1 C.2.1 dX10_fit_89 (by decide) ?_
            obtain ⟨r15, M16, he14, hf⟩ := ea_ci_s hf
            refine ea_runi2 hw (cl_X10_254 C hw (hX 50 3 rfl) (As := [.int (0 : Int32), .int (0 : Int32)]) (rest := []) (mX3_pairPart (l := l) (E := E) (ids := ids) hX (hX 50 3 rfl) he14) (by decide) rfl hl.1 rfl (Nat.le_of_ble_eq_true rfl) dX10_fit_90 ⟨Nat.le_refl _, Nat.le_refl _⟩) (fun H locs hw => ?_)
            exact ea_iret C hw hf dX10_fit_93
    · replace hf := ea_if_t hc8 hf
      refine lv_bipush (v := (-2 : Int32)) C.1 C.2.1 dX10_fit_20 (by decide) ?_
      exact ea_iret C hw hf dX10_fit_22
set_option maxHeartbeats 4000000 in
set_option maxRecDepth 20000 in
theorem mX10_fit {l : Launch} {E : eE} {ids : List Nat} (hX : ea_X ids) {x1 : Int32} {x2 : Int32} {x3 : Int32} {x4 : Int32} {M : eM} {res : Int32 × eM} (hf : fX10_fit x1 x2 x3 x4 M = some res) : ea_Mi l yX10_fit cX10_fit 5 (some .int) 4 103 E ids [.ref (E.1 0), .int x1, .int x2, .int x3, .int x4] M res := by
  refine ea_goi (by decide) (Nat.le_of_ble_eq_true rfl) wc_X10_fit ?_
  intro p e s m below meth cd ls C hw hl
  exact wX10_fit_0 C hX _ _ _ _ _ _ _ _ hf hw hl
end SX10_fit

def fX10_isSide_9 (M : eM) : Option (Int32 × eM) := some ((1 : Int32), M)
def fX10_isSide_0 (x0 : Int32) (M : eM) : Option (Int32 × eM) := if x0 = 0 then (fX10_isSide_9 M) else (if x0 = (1 : Int32) then (fX10_isSide_9 M) else (some ((0 : Int32), M)))
def fX10_isSide (x0 : Int32) (M : eM) : Option (Int32 × eM) := fX10_isSide_0 x0 M
section SX10_isSide
variable {p : Program} {l : Launch} {e : Env} {s : State} {m : MethodId} {args : Array Value} {below : List Frame} {meth : Method} {cd : Code} {E : eE} {ids : List Nat} {res : Int32 × eM}
set_option maxHeartbeats 4000000 in
set_option maxRecDepth 20000 in
theorem wX10_isSide_9 (C : ea_C p s m args meth cd cX10_isSide 1 (some .boolean) RX10) (hX : ea_X ids) : ∀  (M : eM) (H : Heap) (locs : List Loc) (ls : Array Slot), fX10_isSide_9 M = some res → ea_w E ids M s H locs → lv_has ls 1 [] → W p l e (ea_rm 0 0) s m args below meth cd H locs 0 0 (MQ below (ea_Qi E ids res) args s 0 0 (ea_Ad E ids)) (F0 m 9 ls []) := by
  intro M H locs ls hf  hw hl
  replace hf := (fX10_isSide_9.eq_1 ..).symm.trans hf
  refine lv_iconst (v := 1) C.1 C.2.1 dX10_isSide_9 (by decide) ?_
  refine lv_goto (tgt := 14) C.1 C.2.1 dX10_isSide_10 (by decide) ?_
  exact ea_zret C hw (by decide) hf dX10_isSide_14
set_option maxHeartbeats 4000000 in
set_option maxRecDepth 20000 in
theorem wX10_isSide_0 (C : ea_C p s m args meth cd cX10_isSide 1 (some .boolean) RX10) (hX : ea_X ids) : ∀ (x0 : Int32) (M : eM) (H : Heap) (locs : List Loc) (ls : Array Slot), fX10_isSide_0 x0 M = some res → ea_w E ids M s H locs → lv_has ls 1 [(0, .int x0)] → W p l e (ea_rm 0 0) s m args below meth cd H locs 0 0 (MQ below (ea_Qi E ids res) args s 0 0 (ea_Ad E ids)) (F0 m 0 ls []) := by
  intro x0 M H locs ls hf  hw hl
  replace hf := (fX10_isSide_0.eq_1 ..).symm.trans hf
  refine lv_iload_n C.1 C.2.1 dX10_isSide_0 rfl (lv_at hl 0 rfl) ?_
  refine lv_if_eq (tgt := 9) C.1 C.2.1 dX10_isSide_1 (by decide) (fun hc1 => ?_) (fun hc1 => ?_)
  · replace hf := ea_if_t hc1 hf
    exact wX10_isSide_9 C hX _ _ _ _ hf hw (lv_sub hl [] rfl)
  · replace hf := ea_if_f hc1 hf
    refine lv_iload_n C.1 C.2.1 dX10_isSide_4 rfl (lv_at hl 0 rfl) ?_
    refine lv_iconst (v := 1) C.1 C.2.1 dX10_isSide_5 (by decide) ?_
    refine lv_icmp_ne (tgt := 13) C.1 C.2.1 dX10_isSide_6 (by decide) (fun hc2 => ?_) (fun hc2 => ?_)
    · replace hf := ea_if_f hc2 hf
      refine lv_iconst (v := 0) C.1 C.2.1 dX10_isSide_13 (by decide) ?_
      exact ea_zret C hw (by decide) hf dX10_isSide_14
    · replace hf := ea_if_t hc2 hf
      exact wX10_isSide_9 C hX _ _ _ _ hf hw (lv_sub hl [] rfl)
set_option maxHeartbeats 4000000 in
set_option maxRecDepth 20000 in
theorem mX10_isSide {l : Launch} {E : eE} {ids : List Nat} (hX : ea_X ids) {x0 : Int32} {M : eM} {res : Int32 × eM} (hf : fX10_isSide x0 M = some res) : ea_Mi l yX10_isSide cX10_isSide 1 (some .boolean) 0 0 E ids [.int x0] M res := by
  refine ea_goi (by decide) (Nat.le_of_ble_eq_true rfl) wc_X10_isSide ?_
  intro p e s m below meth cd ls C hw hl
  exact wX10_isSide_0 C hX _ _ _ _ _ hf hw hl
end SX10_isSide

def fX8_addLook_0 (a0 : Nat) (x1 : Int32) (x2 : Int32) (x3 : Int32) (x4 : Int32) (x5 : Int32) (x6 : Int32) (M : eM) : Option (eM) := if (90 : Int32) ≤ (M.1 a0 3) then (some M) else (ea_cv (fX8_putEntry a0 (a0 + 1) ((M.1 a0 3) * (6 : Int32)) x1 x2 x3 M) (fun M3 => ea_cv (fX8_putShades (a0 + 1) ((M3.1 a0 3) * (6 : Int32)) x4 x5 x6 M3) (fun M5 => some (ea_pI M5 a0 3 ((M5.1 a0 3) + (1 : Int32))))))
def fX8_addLook (a0 : Nat) (x1 : Int32) (x2 : Int32) (x3 : Int32) (x4 : Int32) (x5 : Int32) (x6 : Int32) (M : eM) : Option (eM) := fX8_addLook_0 a0 x1 x2 x3 x4 x5 x6 M
section SX8_addLook
variable {p : Program} {l : Launch} {e : Env} {s : State} {m : MethodId} {args : Array Value} {below : List Frame} {meth : Method} {cd : Code} {E : eE} {ids : List Nat} {res : eM} {a0 : Nat}
set_option maxHeartbeats 4000000 in
set_option maxRecDepth 20000 in
theorem wX8_addLook_0 (C : ea_C p s m args meth cd cX8_addLook 7 none RX8) (hX : ea_X ids) (ho0 : ea_ok ids a0 8) : ∀ (x1 : Int32) (x2 : Int32) (x3 : Int32) (x4 : Int32) (x5 : Int32) (x6 : Int32) (M : eM) (H : Heap) (locs : List Loc) (ls : Array Slot), fX8_addLook_0 a0 x1 x2 x3 x4 x5 x6 M = some res → ea_w E ids M s H locs → lv_has ls 7 [(0, .ref (E.1 a0)), (1, .int x1), (2, .int x2), (3, .int x3), (4, .int x4), (5, .int x5), (6, .int x6)] → W p l e (ea_rm 1 25) s m args below meth cd H locs 0 0 (MQ below (ea_Qv E ids res) args s 0 0 (ea_Ad E ids)) (F0 m 0 ls []) := by
  intro x1 x2 x3 x4 x5 x6 M H locs ls hf  hw hl
  replace hf := (fX8_addLook_0.eq_1 ..).symm.trans hf
  refine lv_aload_n C.1 C.2.1 dX8_addLook_0 rfl (lv_at hl 0 rfl) ?_
  refine gf_X8_21 C hw ho0 dX8_addLook_1 ?_
  refine lv_bipush (v := 90) C.1 C.2.1 dX8_addLook_4 (by decide) ?_
  refine lv_icmp_ge (tgt := 57) C.1 C.2.1 dX8_addLook_6 (by decide) (fun hc1 => ?_) (fun hc1 => ?_)
  · replace hf := ea_if_t hc1 hf
    exact ea_vret C hw hf dX8_addLook_57
  · replace hf := ea_if_f hc1 hf
    refine lv_aload_n C.1 C.2.1 dX8_addLook_9 rfl (lv_at hl 0 rfl) ?_
    refine lv_aload_n C.1 C.2.1 dX8_addLook_10 rfl (lv_at hl 0 rfl) ?_
    refine gf_X8_11 C hw ho0 dX8_addLook_11 ?_
    refine lv_aload_n C.1 C.2.1 dX8_addLook_14 rfl (lv_at hl 0 rfl) ?_
    refine gf_X8_21 C hw ho0 dX8_addLook_15 ?_
    refine lv_bipush (v := 6) C.1 C.2.1 dX8_addLook_18 (by decide) ?_
    refine lv_imul C.1 C.2.1 dX8_addLook_20 ?_
    refine lv_iload_n C.1 C.2.1 dX8_addLook_21 rfl (lv_at hl 1 rfl) ?_
    refine lv_iload_n C.1 C.2.1 dX8_addLook_22 rfl (lv_at hl 2 rfl) ?_
    refine lv_iload_n C.1 C.2.1 dX8_addLook_23 rfl (lv_at hl 3 rfl) ?_
    obtain ⟨M3, he2, hf⟩ := ea_cv_s hf
    refine ea_runv hw (cl_X8_40 C hw ho0 (As := [.ref (E.1 (a0 + 1)), .int ((M.1 a0 3) * (6 : Int32)), .int x1, .int x2, .int x3]) (rest := []) (mX8_putEntry (l := l) (E := E) (ids := ids) hX ho0 (ok_8_0 ho0) he2) (by decide) rfl hl.1 rfl (Nat.le_of_ble_eq_true rfl) dX8_addLook_24 ⟨Nat.le_refl _, Nat.le_refl _⟩) (fun H locs hw => ?_)
    refine lv_aload_n C.1 C.2.1 dX8_addLook_27 rfl (lv_at hl 0 rfl) ?_
    refine gf_X8_11 C hw ho0 dX8_addLook_28 ?_
    refine lv_aload_n C.1 C.2.1 dX8_addLook_31 rfl (lv_at hl 0 rfl) ?_
    refine gf_X8_21 C hw ho0 dX8_addLook_32 ?_
    refine lv_bipush (v := 6) C.1 C.2.1 dX8_addLook_35 (by decide) ?_
    refine lv_imul C.1 C.2.1 dX8_addLook_37 ?_
    refine lv_iload C.1 C.2.1 dX8_addLook_38 (lv_at hl 4 rfl) ?_
    refine lv_iload C.1 C.2.1 dX8_addLook_40 (lv_at hl 5 rfl) ?_
    refine lv_iload C.1 C.2.1 dX8_addLook_42 (lv_at hl 6 rfl) ?_
    obtain ⟨M5, he4, hf⟩ := ea_cv_s hf
    refine ea_runv hw (cl_X8_44 C hw (As := [.ref (E.1 (a0 + 1)), .int ((M3.1 a0 3) * (6 : Int32)), .int x4, .int x5, .int x6]) (rest := []) (mX8_putShades (l := l) (E := E) (ids := ids) hX (ok_8_0 ho0) he4) (by decide) rfl hl.1 rfl (Nat.le_of_ble_eq_true rfl) dX8_addLook_44 ⟨Nat.le_refl _, Nat.le_refl _⟩) (fun H locs hw => ?_)
    refine lv_aload_n C.1 C.2.1 dX8_addLook_47 rfl (lv_at hl 0 rfl) ?_
    refine lv_dup C.1 C.2.1 dX8_addLook_48 rfl ?_
    refine gf_X8_21 C hw ho0 dX8_addLook_49 ?_
    refine lv_iconst (v := 1) C.1 C.2.1 dX8_addLook_52 (by decide) ?_
    refine lv_iadd C.1 C.2.1 dX8_addLook_53 ?_
    refine pu_X8_21 C hw ho0 dX8_addLook_54 (fun H locs hw => ?_)
    exact ea_vret C hw hf dX8_addLook_57
set_option maxHeartbeats 4000000 in
set_option maxRecDepth 20000 in
theorem mX8_addLook {l : Launch} {E : eE} {ids : List Nat} (hX : ea_X ids) {a0 : Nat} {x1 : Int32} {x2 : Int32} {x3 : Int32} {x4 : Int32} {x5 : Int32} {x6 : Int32} (ho0 : ea_ok ids a0 8) {M : eM} {res : eM} (hf : fX8_addLook a0 x1 x2 x3 x4 x5 x6 M = some res) : ea_Mv l yX8_addLook cX8_addLook 7 1 25 E ids [.ref (E.1 a0), .int x1, .int x2, .int x3, .int x4, .int x5, .int x6] M res := by
  refine ea_gov (by decide) (Nat.le_of_ble_eq_true rfl) wc_X8_addLook ?_
  intro p e s m below meth cd ls C hw hl
  exact wX8_addLook_0 C hX ho0 _ _ _ _ _ _ _ _ _ _ hf hw hl
end SX8_addLook

def fX10_gone_0 (x1 : Int32) (x2 : Int32) (x3 : Int32) (M : eM) : Option (Int32 × eM) := ea_ci (fX10_mayTell x1 M) (fun r2 M3 => if r2 = 0 then (some ((-2 : Int32), M3)) else (ea_ci (fX10_isCell x2 M3) (fun r6 M7 => if r6 = 0 then (some ((-2 : Int32), M7)) else (ea_ci (fX10_isSide x3 M7) (fun r10 M11 => if r10 = 0 then (some ((-2 : Int32), M11)) else (if (M11.1 30 3) < (90 : Int32) then (ea_cv (fX8_addLook 30 x1 x2 x3 (-5 : Int32) (-5 : Int32) (-5 : Int32) M11) (fun M15 => some (M15.1 30 3, M15))) else (some ((-3 : Int32), M11))))))))
def fX10_gone (x1 : Int32) (x2 : Int32) (x3 : Int32) (M : eM) : Option (Int32 × eM) := fX10_gone_0 x1 x2 x3 M
section SX10_gone
variable {p : Program} {l : Launch} {e : Env} {s : State} {m : MethodId} {args : Array Value} {below : List Frame} {meth : Method} {cd : Code} {E : eE} {ids : List Nat} {res : Int32 × eM}
set_option maxHeartbeats 4000000 in
set_option maxRecDepth 20000 in
theorem wX10_gone_0 (C : ea_C p s m args meth cd cX10_gone 4 (some .int) RX10) (hX : ea_X ids) : ∀ (x1 : Int32) (x2 : Int32) (x3 : Int32) (M : eM) (H : Heap) (locs : List Loc) (ls : Array Slot), fX10_gone_0 x1 x2 x3 M = some res → ea_w E ids M s H locs → lv_has ls 4 [(0, .ref (E.1 0)), (1, .int x1), (2, .int x2), (3, .int x3)] → W p l e (ea_rm 2 51) s m args below meth cd H locs 0 0 (MQ below (ea_Qi E ids res) args s 0 0 (ea_Ad E ids)) (F0 m 0 ls []) := by
  intro x1 x2 x3 M H locs ls hf  hw hl
  replace hf := (fX10_gone_0.eq_1 ..).symm.trans hf
  refine lv_aload_n C.1 C.2.1 dX10_gone_0 rfl (lv_at hl 0 rfl) ?_
  refine lv_iload_n C.1 C.2.1 dX10_gone_1 rfl (lv_at hl 1 rfl) ?_
  obtain ⟨r2, M3, he1, hf⟩ := ea_ci_s hf
  refine ea_runi2 hw (cl_X10_193 C hw (hX 0 10 rfl) (As := [.int x1]) (rest := []) (mX10_mayTell (l := l) (E := E) (ids := ids) hX he1) (by decide) rfl hl.1 rfl (Nat.le_of_ble_eq_true rfl) dX10_gone_2 ⟨Nat.le_refl _, Nat.le_refl _⟩) (fun H locs hw => ?_)
  refine lv_if_eq (tgt := 23) C.1 C.2.1 dX10_gone_5 (by decide) (fun hc4 => ?_) (fun hc4 => ?_)
  · replace hf := ea_if_t hc4 hf
    refine lv_bipush (v := (-2 : Int32)) C.1 C.2.1 dX10_gone_23 (by decide) ?_
    exact ea_iret C hw hf dX10_gone_25
  · replace hf := ea_if_f hc4 hf
    refine lv_aload_n C.1 C.2.1 dX10_gone_8 rfl (lv_at hl 0 rfl) ?_
    refine lv_iload_n C.1 C.2.1 dX10_gone_9 rfl (lv_at hl 2 rfl) ?_
    obtain ⟨r6, M7, he5, hf⟩ := ea_ci_s hf
    refine ea_runi2 hw (cl_X10_196 C hw (hX 0 10 rfl) (As := [.int x2]) (rest := []) (mX10_isCell (l := l) (E := E) (ids := ids) hX he5) (by decide) rfl hl.1 rfl (Nat.le_of_ble_eq_true rfl) dX10_gone_10 ⟨Nat.le_refl _, Nat.le_refl _⟩) (fun H locs hw => ?_)
    refine lv_if_eq (tgt := 23) C.1 C.2.1 dX10_gone_13 (by decide) (fun hc8 => ?_) (fun hc8 => ?_)
    · replace hf := ea_if_t hc8 hf
      refine lv_bipush (v := (-2 : Int32)) C.1 C.2.1 dX10_gone_23 (by decide) ?_
      exact ea_iret C hw hf dX10_gone_25
    · replace hf := ea_if_f hc8 hf
      refine lv_iload_n C.1 C.2.1 dX10_gone_16 rfl (lv_at hl 3 rfl) ?_
      obtain ⟨r10, M11, he9, hf⟩ := ea_ci_s hf
      refine ea_runi2 hw (cl_X10_170 C hw (As := [.int x3]) (rest := []) (mX10_isSide (l := l) (E := E) (ids := ids) hX he9) (by decide) rfl hl.1 rfl (Nat.le_of_ble_eq_true rfl) dX10_gone_17 ⟨Nat.le_refl _, Nat.le_refl _⟩) (fun H locs hw => ?_)
      refine lv_if_ne (tgt := 26) C.1 C.2.1 dX10_gone_20 (by decide) (fun hc12 => ?_) (fun hc12 => ?_)
      · replace hf := ea_if_f hc12 hf
        refine lv_aload_n C.1 C.2.1 dX10_gone_26 rfl (lv_at hl 0 rfl) ?_
        refine gf_X10_44 C hw (hX 0 10 rfl) dX10_gone_27 ?_
        refine gf_X10_202 C hw (hX 30 8 rfl) dX10_gone_30 ?_
        refine lv_bipush (v := 90) C.1 C.2.1 dX10_gone_33 (by decide) ?_
        refine lv_icmp_lt (tgt := 41) C.1 C.2.1 dX10_gone_35 (by decide) (fun hc13 => ?_) (fun hc13 => ?_)
        · replace hf := ea_if_t hc13 hf
          refine lv_aload_n C.1 C.2.1 dX10_gone_41 rfl (lv_at hl 0 rfl) ?_
          refine gf_X10_44 C hw (hX 0 10 rfl) dX10_gone_42 ?_
          refine lv_iload_n C.1 C.2.1 dX10_gone_45 rfl (lv_at hl 1 rfl) ?_
          refine lv_iload_n C.1 C.2.1 dX10_gone_46 rfl (lv_at hl 2 rfl) ?_
          refine lv_iload_n C.1 C.2.1 dX10_gone_47 rfl (lv_at hl 3 rfl) ?_
          refine lv_bipush (v := (-5 : Int32)) C.1 C.2.1 dX10_gone_48 (by decide) ?_
          refine lv_bipush (v := (-5 : Int32)) C.1 C.2.1 dX10_gone_50 (by decide) ?_
          refine lv_bipush (v := (-5 : Int32)) C.1 C.2.1 dX10_gone_52 (by decide) ?_
          obtain ⟨M15, he14, hf⟩ := ea_cv_s hf
          refine ea_runv hw (cl_X10_205 C hw (hX 30 8 rfl) (As := [.int x1, .int x2, .int x3, .int (-5 : Int32), .int (-5 : Int32), .int (-5 : Int32)]) (rest := []) (mX8_addLook (l := l) (E := E) (ids := ids) hX (hX 30 8 rfl) he14) (by decide) rfl hl.1 rfl (Nat.le_of_ble_eq_true rfl) dX10_gone_54 ⟨Nat.le_refl _, Nat.le_refl _⟩) (fun H locs hw => ?_)
          refine lv_aload_n C.1 C.2.1 dX10_gone_57 rfl (lv_at hl 0 rfl) ?_
          refine gf_X10_44 C hw (hX 0 10 rfl) dX10_gone_58 ?_
          refine gf_X10_202 C hw (hX 30 8 rfl) dX10_gone_61 ?_
          exact ea_iret C hw hf dX10_gone_64
        · replace hf := ea_if_f hc13 hf
          refine lv_bipush (v := (-3 : Int32)) C.1 C.2.1 dX10_gone_38 (by decide) ?_
          exact ea_iret C hw hf dX10_gone_40
      · replace hf := ea_if_t hc12 hf
        refine lv_bipush (v := (-2 : Int32)) C.1 C.2.1 dX10_gone_23 (by decide) ?_
        exact ea_iret C hw hf dX10_gone_25
set_option maxHeartbeats 4000000 in
set_option maxRecDepth 20000 in
theorem mX10_gone {l : Launch} {E : eE} {ids : List Nat} (hX : ea_X ids) {x1 : Int32} {x2 : Int32} {x3 : Int32} {M : eM} {res : Int32 × eM} (hf : fX10_gone x1 x2 x3 M = some res) : ea_Mi l yX10_gone cX10_gone 4 (some .int) 2 51 E ids [.ref (E.1 0), .int x1, .int x2, .int x3] M res := by
  refine ea_goi (by decide) (Nat.le_of_ble_eq_true rfl) wc_X10_gone ?_
  intro p e s m below meth cd ls C hw hl
  exact wX10_gone_0 C hX _ _ _ _ _ _ _ hf hw hl
end SX10_gone

def fX10_grey_0 (x1 : Int32) (x2 : Int32) (x3 : Int32) (x4 : Int32) (x5 : Int32) (M : eM) : Option (Int32 × eM) := ea_ci (fX10_mayFit x1 x2 x3 M) (fun r2 M3 => if r2 = 0 then (some ((-2 : Int32), M3)) else (ea_ci (fX10_isWithin x4 (0 : Int32) (99 : Int32) M3) (fun r6 M7 => if r6 = 0 then (some ((-2 : Int32), M7)) else (ea_ci (fX10_isColour x5 M7) (fun r10 M11 => if r10 = 0 then (some ((-2 : Int32), M11)) else (ea_cv (fX3_find 50 x1 x2 x3 M11) (fun M14 => ea_cv (fX3_measureSpan 50 M14) (fun M16 => ea_ci (fX3_greyShade 50 x4 x5 M16) (fun r18 M19 => some (r18, M19))))))))))
def fX10_grey (x1 : Int32) (x2 : Int32) (x3 : Int32) (x4 : Int32) (x5 : Int32) (M : eM) : Option (Int32 × eM) := fX10_grey_0 x1 x2 x3 x4 x5 M
section SX10_grey
variable {p : Program} {l : Launch} {e : Env} {s : State} {m : MethodId} {args : Array Value} {below : List Frame} {meth : Method} {cd : Code} {E : eE} {ids : List Nat} {res : Int32 × eM}
set_option maxHeartbeats 4000000 in
set_option maxRecDepth 20000 in
theorem wX10_grey_0 (C : ea_C p s m args meth cd cX10_grey 6 (some .int) RX10) (hX : ea_X ids) : ∀ (x1 : Int32) (x2 : Int32) (x3 : Int32) (x4 : Int32) (x5 : Int32) (M : eM) (H : Heap) (locs : List Loc) (ls : Array Slot), fX10_grey_0 x1 x2 x3 x4 x5 M = some res → ea_w E ids M s H locs → lv_has ls 6 [(0, .ref (E.1 0)), (1, .int x1), (2, .int x2), (3, .int x3), (4, .int x4), (5, .int x5)] → W p l e (ea_rm 4 103) s m args below meth cd H locs 0 0 (MQ below (ea_Qi E ids res) args s 0 0 (ea_Ad E ids)) (F0 m 0 ls []) := by
  intro x1 x2 x3 x4 x5 M H locs ls hf  hw hl
  replace hf := (fX10_grey_0.eq_1 ..).symm.trans hf
  refine lv_aload_n C.1 C.2.1 dX10_grey_0 rfl (lv_at hl 0 rfl) ?_
  refine lv_iload_n C.1 C.2.1 dX10_grey_1 rfl (lv_at hl 1 rfl) ?_
  refine lv_iload_n C.1 C.2.1 dX10_grey_2 rfl (lv_at hl 2 rfl) ?_
  refine lv_iload_n C.1 C.2.1 dX10_grey_3 rfl (lv_at hl 3 rfl) ?_
  obtain ⟨r2, M3, he1, hf⟩ := ea_ci_s hf
  refine ea_runi2 hw (cl_X10_238 C hw (hX 0 10 rfl) (As := [.int x1, .int x2, .int x3]) (rest := []) (mX10_mayFit (l := l) (E := E) (ids := ids) hX he1) (by decide) rfl hl.1 rfl (Nat.le_of_ble_eq_true rfl) dX10_grey_4 ⟨Nat.le_refl _, Nat.le_refl _⟩) (fun H locs hw => ?_)
  refine lv_if_eq (tgt := 29) C.1 C.2.1 dX10_grey_7 (by decide) (fun hc4 => ?_) (fun hc4 => ?_)
  · replace hf := ea_if_t hc4 hf
    refine lv_bipush (v := (-2 : Int32)) C.1 C.2.1 dX10_grey_29 (by decide) ?_
    exact ea_iret C hw hf dX10_grey_31
  · replace hf := ea_if_f hc4 hf
    refine lv_iload C.1 C.2.1 dX10_grey_10 (lv_at hl 4 rfl) ?_
    refine lv_iconst (v := 0) C.1 C.2.1 dX10_grey_12 (by decide) ?_
    refine lv_bipush (v := 99) C.1 C.2.1 dX10_grey_13 (by decide) ?_
    obtain ⟨r6, M7, he5, hf⟩ := ea_ci_s hf
    refine ea_runi2 hw (cl_X10_133 C hw (As := [.int x4, .int (0 : Int32), .int (99 : Int32)]) (rest := []) (mX10_isWithin (l := l) (E := E) (ids := ids) hX he5) (by decide) rfl hl.1 rfl (Nat.le_of_ble_eq_true rfl) dX10_grey_15 ⟨Nat.le_refl _, Nat.le_refl _⟩) (fun H locs hw => ?_)
    refine lv_if_eq (tgt := 29) C.1 C.2.1 dX10_grey_18 (by decide) (fun hc8 => ?_) (fun hc8 => ?_)
    · replace hf := ea_if_t hc8 hf
      refine lv_bipush (v := (-2 : Int32)) C.1 C.2.1 dX10_grey_29 (by decide) ?_
      exact ea_iret C hw hf dX10_grey_31
    · replace hf := ea_if_f hc8 hf
      refine lv_iload C.1 C.2.1 dX10_grey_21 (lv_at hl 5 rfl) ?_
      obtain ⟨r10, M11, he9, hf⟩ := ea_ci_s hf
      refine ea_runi2 hw (cl_X10_186 C hw (As := [.int x5]) (rest := []) (mX10_isColour (l := l) (E := E) (ids := ids) hX he9) (by decide) rfl hl.1 rfl (Nat.le_of_ble_eq_true rfl) dX10_grey_23 ⟨Nat.le_refl _, Nat.le_refl _⟩) (fun H locs hw => ?_)
      refine lv_if_ne (tgt := 32) C.1 C.2.1 dX10_grey_26 (by decide) (fun hc12 => ?_) (fun hc12 => ?_)
      · replace hf := ea_if_f hc12 hf
        refine lv_aload_n C.1 C.2.1 dX10_grey_32 rfl (lv_at hl 0 rfl) ?_
        refine gf_X10_57 C hw (hX 0 10 rfl) dX10_grey_33 ?_
        refine lv_iload_n C.1 C.2.1 dX10_grey_36 rfl (lv_at hl 1 rfl) ?_
        refine lv_iload_n C.1 C.2.1 dX10_grey_37 rfl (lv_at hl 2 rfl) ?_
        refine lv_iload_n C.1 C.2.1 dX10_grey_38 rfl (lv_at hl 3 rfl) ?_
        obtain ⟨M14, he13, hf⟩ := ea_cv_s hf
        refine ea_runv hw (cl_X10_241 C hw (hX 50 3 rfl) (As := [.int x1, .int x2, .int x3]) (rest := []) (mX3_find (l := l) (E := E) (ids := ids) hX (hX 50 3 rfl) he13) (by decide) rfl hl.1 rfl (Nat.le_of_ble_eq_true rfl) dX10_grey_39 ⟨Nat.le_refl _, Nat.le_refl _⟩) (fun H locs hw => ?_)
        refine lv_aload_n C.1 C.2.1 dX10_grey_42 rfl (lv_at hl 0 rfl) ?_
        refine gf_X10_57 C hw (hX 0 10 rfl) dX10_grey_43 ?_
        obtain ⟨M16, he15, hf⟩ := ea_cv_s hf
        refine ea_runv hw (cl_X10_258 C hw (hX 50 3 rfl) (As := []) (rest := []) (mX3_measureSpan (l := l) (E := E) (ids := ids) hX (hX 50 3 rfl) he15) (by decide) rfl hl.1 rfl (Nat.le_of_ble_eq_true rfl) dX10_grey_46 ⟨Nat.le_refl _, Nat.le_refl _⟩) (fun H locs hw => ?_)
        refine lv_aload_n C.1 C.2.1 dX10_grey_49 rfl (lv_at hl 0 rfl) ?_
        refine gf_X10_57 C hw (hX 0 10 rfl) dX10_grey_50 ?_
        refine lv_iload C.1 C.2.1 dX10_grey_53 (lv_at hl 4 rfl) ?_
        refine lv_iload C.1 C.2.1 dX10_grey_55 (lv_at hl 5 rfl) ?_
        obtain ⟨r18, M19, he17, hf⟩ := ea_ci_s hf
        refine ea_runi2 hw (cl_X10_267 C hw (hX 50 3 rfl) (As := [.int x4, .int x5]) (rest := []) (mX3_greyShade (l := l) (E := E) (ids := ids) hX (hX 50 3 rfl) he17) (by decide) rfl hl.1 rfl (Nat.le_of_ble_eq_true rfl) dX10_grey_57 ⟨Nat.le_refl _, Nat.le_refl _⟩) (fun H locs hw => ?_)
        exact ea_iret C hw hf dX10_grey_60
      · replace hf := ea_if_t hc12 hf
        refine lv_bipush (v := (-2 : Int32)) C.1 C.2.1 dX10_grey_29 (by decide) ?_
        exact ea_iret C hw hf dX10_grey_31
set_option maxHeartbeats 4000000 in
set_option maxRecDepth 20000 in
theorem mX10_grey {l : Launch} {E : eE} {ids : List Nat} (hX : ea_X ids) {x1 : Int32} {x2 : Int32} {x3 : Int32} {x4 : Int32} {x5 : Int32} {M : eM} {res : Int32 × eM} (hf : fX10_grey x1 x2 x3 x4 x5 M = some res) : ea_Mi l yX10_grey cX10_grey 6 (some .int) 4 103 E ids [.ref (E.1 0), .int x1, .int x2, .int x3, .int x4, .int x5] M res := by
  refine ea_goi (by decide) (Nat.le_of_ble_eq_true rfl) wc_X10_grey ?_
  intro p e s m below meth cd ls C hw hl
  exact wX10_grey_0 C hX _ _ _ _ _ _ _ _ _ hf hw hl
end SX10_grey

def fX10_hours_52 (x1 : Int32) (x2 : Int32) (x3 : Int32) (x4 : Int32) (t0 : Int32) (M : eM) : Option (Int32 × eM) := if t0 = 0 then (some ((-2 : Int32), M)) else (ea_ck (ea_is (M.2.2 4 0) 1) (ea_ci (fX1_hoursOf (M.2.2 4 0) x1 x2 x3 x4 M) (fun r4 M5 => some (r4, M5))))
def fX10_hours_51 (x1 : Int32) (x2 : Int32) (x3 : Int32) (x4 : Int32) (M : eM) : Option (Int32 × eM) := fX10_hours_52 x1 x2 x3 x4 (0 : Int32) M
def fX10_hours_0 (x1 : Int32) (x2 : Int32) (x3 : Int32) (x4 : Int32) (M : eM) : Option (Int32 × eM) := ea_ci (fX10_isStory x1 M) (fun r2 M3 => if r2 = 0 then (fX10_hours_51 x1 x2 x3 x4 M3) else (ea_ck (ea_is (M3.2.2 4 0) 1) (ea_ci (fX10_isWithin x2 (0 : Int32) ((M3.1 (M3.2.2 4 0) 0) - (1 : Int32)) M3) (fun r7 M8 => if r7 = 0 then (fX10_hours_51 x1 x2 x3 x4 M8) else (ea_ci (fX10_isWithin x3 (0 : Int32) (999 : Int32) M8) (fun r11 M12 => if r11 = 0 then (fX10_hours_51 x1 x2 x3 x4 M12) else (ea_ci (fX10_isSide x4 M12) (fun r15 M16 => if r15 = 0 then (fX10_hours_51 x1 x2 x3 x4 M16) else (fX10_hours_52 x1 x2 x3 x4 (1 : Int32) M16)))))))))
def fX10_hours (x1 : Int32) (x2 : Int32) (x3 : Int32) (x4 : Int32) (M : eM) : Option (Int32 × eM) := fX10_hours_0 x1 x2 x3 x4 M
section SX10_hours
variable {p : Program} {l : Launch} {e : Env} {s : State} {m : MethodId} {args : Array Value} {below : List Frame} {meth : Method} {cd : Code} {E : eE} {ids : List Nat} {res : Int32 × eM}
set_option maxHeartbeats 4000000 in
set_option maxRecDepth 20000 in
theorem wX10_hours_52 (C : ea_C p s m args meth cd cX10_hours 6 (some .int) RX10) (hX : ea_X ids) : ∀ (x1 : Int32) (x2 : Int32) (x3 : Int32) (x4 : Int32) (t0 : Int32) (M : eM) (H : Heap) (locs : List Loc) (ls : Array Slot), fX10_hours_52 x1 x2 x3 x4 t0 M = some res → ea_w E ids M s H locs → lv_has ls 6 [(0, .ref (E.1 0)), (1, .int x1), (2, .int x2), (3, .int x3), (4, .int x4)] → W p l e (ea_rm 2 54) s m args below meth cd H locs 0 0 (MQ below (ea_Qi E ids res) args s 0 0 (ea_Ad E ids)) (F0 m 52 ls [.int t0]) := by
  intro x1 x2 x3 x4 t0 M H locs ls hf  hw hl
  replace hf := (fX10_hours_52.eq_1 ..).symm.trans hf
  refine lv_istore (lv' := [(5, .int t0), (0, .ref (E.1 0)), (1, .int x1), (2, .int x2), (3, .int x3), (4, .int x4)]) C.1 C.2.1 dX10_hours_52 hl (by decide) rfl (fun ls hl => ?_)
  refine lv_iload C.1 C.2.1 dX10_hours_54 (lv_at hl 0 rfl) ?_
  refine lv_if_eq (tgt := 77) C.1 C.2.1 dX10_hours_56 (by decide) (fun hc1 => ?_) (fun hc1 => ?_)
  · replace hf := ea_if_t hc1 hf
    refine lv_bipush (v := (-2 : Int32)) C.1 C.2.1 dX10_hours_77 (by decide) ?_
    exact ea_iret C hw hf dX10_hours_79
  · replace hf := ea_if_f hc1 hf
    refine lv_aload_n C.1 C.2.1 dX10_hours_59 rfl (lv_at hl 1 rfl) ?_
    refine gf_X10_24 C hw (hX 0 10 rfl) dX10_hours_60 ?_
    refine gf_X10_110 C hw (hX 4 9 rfl) dX10_hours_63 ?_
    obtain ⟨hc2, hf⟩ := ea_ck_s hf
    refine lv_iload_n C.1 C.2.1 dX10_hours_66 rfl (lv_at hl 2 rfl) ?_
    refine lv_iload_n C.1 C.2.1 dX10_hours_67 rfl (lv_at hl 3 rfl) ?_
    refine lv_iload_n C.1 C.2.1 dX10_hours_68 rfl (lv_at hl 4 rfl) ?_
    refine lv_iload C.1 C.2.1 dX10_hours_69 (lv_at hl 5 rfl) ?_
    obtain ⟨r4, M5, he3, hf⟩ := ea_ci_s hf
    refine ea_runi2 hw (cl_X10_173 C hw (ea_dyn hX hc2) (As := [.int x1, .int x2, .int x3, .int x4]) (rest := []) (mX1_hoursOf (l := l) (E := E) (ids := ids) hX (ea_dyn hX hc2) he3) (by decide) rfl hl.1 rfl (Nat.le_of_ble_eq_true rfl) dX10_hours_71 ⟨Nat.le_refl _, Nat.le_refl _⟩) (fun H locs hw => ?_)
    refine lv_goto (tgt := 79) C.1 C.2.1 dX10_hours_74 (by decide) ?_
    exact ea_iret C hw hf dX10_hours_79
set_option maxHeartbeats 4000000 in
set_option maxRecDepth 20000 in
theorem wX10_hours_51 (C : ea_C p s m args meth cd cX10_hours 6 (some .int) RX10) (hX : ea_X ids) : ∀ (x1 : Int32) (x2 : Int32) (x3 : Int32) (x4 : Int32) (M : eM) (H : Heap) (locs : List Loc) (ls : Array Slot), fX10_hours_51 x1 x2 x3 x4 M = some res → ea_w E ids M s H locs → lv_has ls 6 [(0, .ref (E.1 0)), (1, .int x1), (2, .int x2), (3, .int x3), (4, .int x4)] → W p l e (ea_rm 2 54) s m args below meth cd H locs 0 0 (MQ below (ea_Qi E ids res) args s 0 0 (ea_Ad E ids)) (F0 m 51 ls []) := by
  intro x1 x2 x3 x4 M H locs ls hf  hw hl
  replace hf := (fX10_hours_51.eq_1 ..).symm.trans hf
  refine lv_iconst (v := 0) C.1 C.2.1 dX10_hours_51 (by decide) ?_
  exact wX10_hours_52 C hX _ _ _ _ _ _ _ _ _ hf hw (lv_sub hl [0, 1, 2, 3, 4] rfl)
set_option maxHeartbeats 4000000 in
set_option maxRecDepth 20000 in
theorem wX10_hours_0 (C : ea_C p s m args meth cd cX10_hours 6 (some .int) RX10) (hX : ea_X ids) : ∀ (x1 : Int32) (x2 : Int32) (x3 : Int32) (x4 : Int32) (M : eM) (H : Heap) (locs : List Loc) (ls : Array Slot), fX10_hours_0 x1 x2 x3 x4 M = some res → ea_w E ids M s H locs → lv_has ls 6 [(0, .ref (E.1 0)), (1, .int x1), (2, .int x2), (3, .int x3), (4, .int x4)] → W p l e (ea_rm 2 54) s m args below meth cd H locs 0 0 (MQ below (ea_Qi E ids res) args s 0 0 (ea_Ad E ids)) (F0 m 0 ls []) := by
  intro x1 x2 x3 x4 M H locs ls hf  hw hl
  replace hf := (fX10_hours_0.eq_1 ..).symm.trans hf
  refine lv_aload_n C.1 C.2.1 dX10_hours_0 rfl (lv_at hl 0 rfl) ?_
  refine lv_iload_n C.1 C.2.1 dX10_hours_1 rfl (lv_at hl 1 rfl) ?_
  obtain ⟨r2, M3, he1, hf⟩ := ea_ci_s hf
  refine ea_runi2 hw (cl_X10_163 C hw (hX 0 10 rfl) (As := [.int x1]) (rest := []) (mX10_isStory (l := l) (E := E) (ids := ids) hX he1) (by decide) rfl hl.1 rfl (Nat.le_of_ble_eq_true rfl) dX10_hours_2 ⟨Nat.le_refl _, Nat.le_refl _⟩) (fun H locs hw => ?_)
  refine lv_if_eq (tgt := 51) C.1 C.2.1 dX10_hours_5 (by decide) (fun hc4 => ?_) (fun hc4 => ?_)
  · replace hf := ea_if_t hc4 hf
    exact wX10_hours_51 C hX _ _ _ _ _ _ _ _ hf hw (lv_sub hl [0, 1, 2, 3, 4] rfl)
  · replace hf := ea_if_f hc4 hf
    refine lv_iload_n C.1 C.2.1 dX10_hours_8 rfl (lv_at hl 2 rfl) ?_
    refine lv_iconst (v := 0) C.1 C.2.1 dX10_hours_9 (by decide) ?_
    refine lv_aload_n C.1 C.2.1 dX10_hours_10 rfl (lv_at hl 0 rfl) ?_
    refine gf_X10_24 C hw (hX 0 10 rfl) dX10_hours_11 ?_
    refine gf_X10_110 C hw (hX 4 9 rfl) dX10_hours_14 ?_
    obtain ⟨hc5, hf⟩ := ea_ck_s hf
    refine gf_X10_167 C hw (ea_dyn hX hc5) dX10_hours_17 ?_
    refine lv_iconst (v := 1) C.1 C.2.1 dX10_hours_20 (by decide) ?_
    refine lv_isub C.1 C.2.1 dX10_hours_21 ?_
    obtain ⟨r7, M8, he6, hf⟩ := ea_ci_s hf
    refine ea_runi2 hw (cl_X10_133 C hw (As := [.int x2, .int (0 : Int32), .int ((M3.1 (M3.2.2 4 0) 0) - (1 : Int32))]) (rest := []) (mX10_isWithin (l := l) (E := E) (ids := ids) hX he6) (by decide) rfl hl.1 rfl (Nat.le_of_ble_eq_true rfl) dX10_hours_22 ⟨Nat.le_refl _, Nat.le_refl _⟩) (fun H locs hw => ?_)
    refine lv_if_eq (tgt := 51) C.1 C.2.1 dX10_hours_25 (by decide) (fun hc9 => ?_) (fun hc9 => ?_)
    · replace hf := ea_if_t hc9 hf
      exact wX10_hours_51 C hX _ _ _ _ _ _ _ _ hf hw (lv_sub hl [0, 1, 2, 3, 4] rfl)
    · replace hf := ea_if_f hc9 hf
      refine lv_iload_n C.1 C.2.1 dX10_hours_28 rfl (lv_at hl 3 rfl) ?_
      refine lv_iconst (v := 0) C.1 C.2.1 dX10_hours_29 (by decide) ?_
      refine lv_sipush (v := 999) C.1 C.2.1 dX10_hours_30 (by decide) ?_
      obtain ⟨r11, M12, he10, hf⟩ := ea_ci_s hf
      refine ea_runi2 hw (cl_X10_133 C hw (As := [.int x3, .int (0 : Int32), .int (999 : Int32)]) (rest := []) (mX10_isWithin (l := l) (E := E) (ids := ids) hX he10) (by decide) rfl hl.1 rfl (Nat.le_of_ble_eq_true rfl) dX10_hours_33 ⟨Nat.le_refl _, Nat.le_refl _⟩) (fun H locs hw => ?_)
      refine lv_if_eq (tgt := 51) C.1 C.2.1 dX10_hours_36 (by decide) (fun hc13 => ?_) (fun hc13 => ?_)
      · replace hf := ea_if_t hc13 hf
        exact wX10_hours_51 C hX _ _ _ _ _ _ _ _ hf hw (lv_sub hl [0, 1, 2, 3, 4] rfl)
      · replace hf := ea_if_f hc13 hf
        refine lv_iload C.1 C.2.1 dX10_hours_39 (lv_at hl 4 rfl) ?_
        obtain ⟨r15, M16, he14, hf⟩ := ea_ci_s hf
        refine ea_runi2 hw (cl_X10_170 C hw (As := [.int x4]) (rest := []) (mX10_isSide (l := l) (E := E) (ids := ids) hX he14) (by decide) rfl hl.1 rfl (Nat.le_of_ble_eq_true rfl) dX10_hours_41 ⟨Nat.le_refl _, Nat.le_refl _⟩) (fun H locs hw => ?_)
        refine lv_if_eq (tgt := 51) C.1 C.2.1 dX10_hours_44 (by decide) (fun hc17 => ?_) (fun hc17 => ?_)
        · replace hf := ea_if_t hc17 hf
          exact wX10_hours_51 C hX _ _ _ _ _ _ _ _ hf hw (lv_sub hl [0, 1, 2, 3, 4] rfl)
        · replace hf := ea_if_f hc17 hf
          refine lv_iconst (v := 1) C.1 C.2.1 dX10_hours_47 (by decide) ?_
          refine lv_goto (tgt := 52) C.1 C.2.1 dX10_hours_48 (by decide) ?_
          exact wX10_hours_52 C hX _ _ _ _ _ _ _ _ _ hf hw (lv_sub hl [0, 1, 2, 3, 4] rfl)
set_option maxHeartbeats 4000000 in
set_option maxRecDepth 20000 in
theorem mX10_hours {l : Launch} {E : eE} {ids : List Nat} (hX : ea_X ids) {x1 : Int32} {x2 : Int32} {x3 : Int32} {x4 : Int32} {M : eM} {res : Int32 × eM} (hf : fX10_hours x1 x2 x3 x4 M = some res) : ea_Mi l yX10_hours cX10_hours 6 (some .int) 2 54 E ids [.ref (E.1 0), .int x1, .int x2, .int x3, .int x4] M res := by
  refine ea_goi (by decide) (Nat.le_of_ble_eq_true rfl) wc_X10_hours ?_
  intro p e s m below meth cd ls C hw hl
  exact wX10_hours_0 C hX _ _ _ _ _ _ _ _ hf hw hl
end SX10_hours

def fX10_isPast_46 (k6 : Int32 → Int32 → Int32 → Int32 → Int32 → Int32 → eM → Option (Int32 × eM)) (x1 : Int32) (x2 : Int32) (x3 : Int32) (x4 : Int32) (x6 : Int32) (t0 : Int32) (t1 : Int32) (M : eM) : Option (Int32 × eM) := k6 x1 x2 x3 x4 (t1 + t0) (x6 + (1 : Int32)) M
def fX10_isPast_6 (k55 : Int32 → Int32 → eM → Option (Int32 × eM)) : Nat → Int32 → Int32 → Int32 → Int32 → Int32 → Int32 → eM → Option (Int32 × eM)
  | 0, _, _, _, _, _, _, _ => none
  | n + 1, x1, x2, x3, x4, x5, x6, M => if (3 : Int32) ≤ x6 then (k55 x3 x5 M) else (ea_ci (fX9_shadeOf x1 x4 x6 M) (fun r3 M4 => ea_ci (fX8_lookShade 30 x2 x6 M4) (fun r6 M7 => if r3 < (r6 + x3) then (fX10_isPast_46 (fX10_isPast_6 k55 n) x1 x2 x3 x4 x6 (0 : Int32) x5 M7) else (fX10_isPast_46 (fX10_isPast_6 k55 n) x1 x2 x3 x4 x6 (1 : Int32) x5 M7))))
def fX10_isPast_55 (x3 : Int32) (x5 : Int32) (M : eM) : Option (Int32 × eM) := if x3 ≤ 0 then (if x5 = (3 : Int32) then (some ((1 : Int32), M)) else (some ((0 : Int32), M))) else (if x5 ≤ 0 then (some ((0 : Int32), M)) else (some ((1 : Int32), M)))
def fX10_isPast_0 (x1 : Int32) (x2 : Int32) (x3 : Int32) (x4 : Int32) (M : eM) : Option (Int32 × eM) := fX10_isPast_6 (fX10_isPast_55) ea_N x1 x2 x3 x4 (0 : Int32) (0 : Int32) M
def fX10_isPast (x1 : Int32) (x2 : Int32) (x3 : Int32) (x4 : Int32) (M : eM) : Option (Int32 × eM) := fX10_isPast_0 x1 x2 x3 x4 M
section SX10_isPast
variable {p : Program} {l : Launch} {e : Env} {s : State} {m : MethodId} {args : Array Value} {below : List Frame} {meth : Method} {cd : Code} {E : eE} {ids : List Nat} {res : Int32 × eM}
set_option maxHeartbeats 4000000 in
set_option maxRecDepth 20000 in
theorem wX10_isPast_46 (C : ea_C p s m args meth cd cX10_isPast 7 (some .boolean) RX10) (hX : ea_X ids) {k6 : Int32 → Int32 → Int32 → Int32 → Int32 → Int32 → eM → Option (Int32 × eM)} (hk6 : ∀ (x1 : Int32) (x2 : Int32) (x3 : Int32) (x4 : Int32) (x5 : Int32) (x6 : Int32) (M : eM) (H : Heap) (locs : List Loc) (ls : Array Slot), k6 x1 x2 x3 x4 x5 x6 M = some res → ea_w E ids M s H locs → lv_has ls 7 [(0, .ref (E.1 0)), (1, .int x1), (2, .int x2), (3, .int x3), (4, .int x4), (5, .int x5), (6, .int x6)] → W p l e (ea_rm 4 94) s m args below meth cd H locs 0 0 (MQ below (ea_Qi E ids res) args s 0 0 (ea_Ad E ids)) (F0 m 6 ls [])) : ∀ (x1 : Int32) (x2 : Int32) (x3 : Int32) (x4 : Int32) (x6 : Int32) (t0 : Int32) (t1 : Int32) (M : eM) (H : Heap) (locs : List Loc) (ls : Array Slot), fX10_isPast_46 k6 x1 x2 x3 x4 x6 t0 t1 M = some res → ea_w E ids M s H locs → lv_has ls 7 [(0, .ref (E.1 0)), (1, .int x1), (2, .int x2), (3, .int x3), (4, .int x4), (6, .int x6)] → W p l e (ea_rm 4 94) s m args below meth cd H locs 0 0 (MQ below (ea_Qi E ids res) args s 0 0 (ea_Ad E ids)) (F0 m 46 ls [.int t0, .int t1]) := by
  intro x1 x2 x3 x4 x6 t0 t1 M H locs ls hf  hw hl
  replace hf := (fX10_isPast_46.eq_1 ..).symm.trans hf
  refine lv_iadd C.1 C.2.1 dX10_isPast_46 ?_
  refine lv_istore (lv' := [(5, .int (t1 + t0)), (0, .ref (E.1 0)), (1, .int x1), (2, .int x2), (3, .int x3), (4, .int x4), (6, .int x6)]) C.1 C.2.1 dX10_isPast_47 hl (by decide) rfl (fun ls hl => ?_)
  refine lv_iinc (v := x6 + (1 : Int32)) (lv' := [(6, .int (x6 + (1 : Int32))), (5, .int (t1 + t0)), (0, .ref (E.1 0)), (1, .int x1), (2, .int x2), (3, .int x3), (4, .int x4)]) C.1 C.2.1 dX10_isPast_49 hl (k := 6) rfl rfl (by decide) rfl (fun ls hl => ?_)
  refine lv_goto (tgt := 6) C.1 C.2.1 dX10_isPast_52 (by decide) ?_
  exact hk6 _ _ _ _ _ _ _ _ _ _ hf hw (lv_sub hl [2, 3, 4, 5, 6, 1, 0] rfl)
set_option maxHeartbeats 4000000 in
set_option maxRecDepth 20000 in
theorem wX10_isPast_6 (C : ea_C p s m args meth cd cX10_isPast 7 (some .boolean) RX10) (hX : ea_X ids) {k55 : Int32 → Int32 → eM → Option (Int32 × eM)} (hk55 : ∀ (x3 : Int32) (x5 : Int32) (M : eM) (H : Heap) (locs : List Loc) (ls : Array Slot), k55 x3 x5 M = some res → ea_w E ids M s H locs → lv_has ls 7 [(3, .int x3), (5, .int x5)] → W p l e (ea_rm 4 94) s m args below meth cd H locs 0 0 (MQ below (ea_Qi E ids res) args s 0 0 (ea_Ad E ids)) (F0 m 55 ls [])) : ∀ (n : Nat) (x1 : Int32) (x2 : Int32) (x3 : Int32) (x4 : Int32) (x5 : Int32) (x6 : Int32) (M : eM) (H : Heap) (locs : List Loc) (ls : Array Slot), fX10_isPast_6 k55 n x1 x2 x3 x4 x5 x6 M = some res → ea_w E ids M s H locs → lv_has ls 7 [(0, .ref (E.1 0)), (1, .int x1), (2, .int x2), (3, .int x3), (4, .int x4), (5, .int x5), (6, .int x6)] → W p l e (ea_rm 4 94) s m args below meth cd H locs 0 0 (MQ below (ea_Qi E ids res) args s 0 0 (ea_Ad E ids)) (F0 m 6 ls []) := by
  intro n
  induction n with
  | zero => intro x1 x2 x3 x4 x5 x6 M H locs ls hf; cases hf
  | succ n ih =>
    intro x1 x2 x3 x4 x5 x6 M H locs ls hf  hw hl
    replace hf := (fX10_isPast_6.eq_2 ..).symm.trans hf
    refine lv_iload C.1 C.2.1 dX10_isPast_6 (lv_at hl 6 rfl) ?_
    refine lv_iconst (v := 3) C.1 C.2.1 dX10_isPast_8 (by decide) ?_
    refine lv_icmp_ge (tgt := 55) C.1 C.2.1 dX10_isPast_9 (by decide) (fun hc1 => ?_) (fun hc1 => ?_)
    · replace hf := ea_if_t hc1 hf
      exact hk55 _ _ _ _ _ _ hf hw (lv_sub hl [3, 5] rfl)
    · replace hf := ea_if_f hc1 hf
      refine lv_iload C.1 C.2.1 dX10_isPast_12 (lv_at hl 5 rfl) ?_
      refine lv_aload_n C.1 C.2.1 dX10_isPast_14 rfl (lv_at hl 0 rfl) ?_
      refine gf_X10_24 C hw (hX 0 10 rfl) dX10_isPast_15 ?_
      refine lv_iload_n C.1 C.2.1 dX10_isPast_18 rfl (lv_at hl 1 rfl) ?_
      refine lv_iload C.1 C.2.1 dX10_isPast_19 (lv_at hl 4 rfl) ?_
      refine lv_iload C.1 C.2.1 dX10_isPast_21 (lv_at hl 6 rfl) ?_
      obtain ⟨r3, M4, he2, hf⟩ := ea_ci_s hf
      refine ea_runi2 hw (cl_X10_189 C hw (hX 4 9 rfl) (As := [.int x1, .int x4, .int x6]) (rest := [.int x5]) (mX9_shadeOf (l := l) (E := E) (ids := ids) hX he2) (by decide) rfl hl.1 rfl (Nat.le_of_ble_eq_true rfl) dX10_isPast_23 ⟨Nat.le_refl _, Nat.le_refl _⟩) (fun H locs hw => ?_)
      refine lv_aload_n C.1 C.2.1 dX10_isPast_26 rfl (lv_at hl 0 rfl) ?_
      refine gf_X10_44 C hw (hX 0 10 rfl) dX10_isPast_27 ?_
      refine lv_iload_n C.1 C.2.1 dX10_isPast_30 rfl (lv_at hl 2 rfl) ?_
      refine lv_iload C.1 C.2.1 dX10_isPast_31 (lv_at hl 6 rfl) ?_
      obtain ⟨r6, M7, he5, hf⟩ := ea_ci_s hf
      refine ea_runi2 hw (cl_X10_231 C hw (hX 30 8 rfl) (As := [.int x2, .int x6]) (rest := [.int r3, .int x5]) (mX8_lookShade (l := l) (E := E) (ids := ids) hX (hX 30 8 rfl) he5) (by decide) rfl hl.1 rfl (Nat.le_of_ble_eq_true rfl) dX10_isPast_33 ⟨Nat.le_refl _, Nat.le_refl _⟩) (fun H locs hw => ?_)
      refine lv_iload_n C.1 C.2.1 dX10_isPast_36 rfl (lv_at hl 3 rfl) ?_
      refine lv_iadd C.1 C.2.1 dX10_isPast_37 ?_
      refine lv_icmp_lt (tgt := 45) C.1 C.2.1 dX10_isPast_38 (by decide) (fun hc8 => ?_) (fun hc8 => ?_)
      · replace hf := ea_if_t hc8 hf
        refine lv_iconst (v := 0) C.1 C.2.1 dX10_isPast_45 (by decide) ?_
        exact wX10_isPast_46 C hX ih _ _ _ _ _ _ _ _ _ _ _ hf hw (lv_sub hl [0, 1, 2, 3, 4, 6] rfl)
      · replace hf := ea_if_f hc8 hf
        refine lv_iconst (v := 1) C.1 C.2.1 dX10_isPast_41 (by decide) ?_
        refine lv_goto (tgt := 46) C.1 C.2.1 dX10_isPast_42 (by decide) ?_
        exact wX10_isPast_46 C hX ih _ _ _ _ _ _ _ _ _ _ _ hf hw (lv_sub hl [0, 1, 2, 3, 4, 6] rfl)
set_option maxHeartbeats 4000000 in
set_option maxRecDepth 20000 in
theorem wX10_isPast_55 (C : ea_C p s m args meth cd cX10_isPast 7 (some .boolean) RX10) (hX : ea_X ids) : ∀ (x3 : Int32) (x5 : Int32) (M : eM) (H : Heap) (locs : List Loc) (ls : Array Slot), fX10_isPast_55 x3 x5 M = some res → ea_w E ids M s H locs → lv_has ls 7 [(3, .int x3), (5, .int x5)] → W p l e (ea_rm 4 94) s m args below meth cd H locs 0 0 (MQ below (ea_Qi E ids res) args s 0 0 (ea_Ad E ids)) (F0 m 55 ls []) := by
  intro x3 x5 M H locs ls hf  hw hl
  replace hf := (fX10_isPast_55.eq_1 ..).symm.trans hf
  refine lv_iload_n C.1 C.2.1 dX10_isPast_55 rfl (lv_at hl 0 rfl) ?_
  refine lv_if_le (tgt := 72) C.1 C.2.1 dX10_isPast_56 (by decide) (fun hc1 => ?_) (fun hc1 => ?_)
  · replace hf := ea_if_t hc1 hf
    refine lv_iload C.1 C.2.1 dX10_isPast_72 (lv_at hl 1 rfl) ?_
    refine lv_iconst (v := 3) C.1 C.2.1 dX10_isPast_74 (by decide) ?_
    refine lv_icmp_ne (tgt := 82) C.1 C.2.1 dX10_isPast_75 (by decide) (fun hc2 => ?_) (fun hc2 => ?_)
    · replace hf := ea_if_f hc2 hf
      refine lv_iconst (v := 0) C.1 C.2.1 dX10_isPast_82 (by decide) ?_
      exact ea_zret C hw (by decide) hf dX10_isPast_83
    · replace hf := ea_if_t hc2 hf
      refine lv_iconst (v := 1) C.1 C.2.1 dX10_isPast_78 (by decide) ?_
      refine lv_goto (tgt := 83) C.1 C.2.1 dX10_isPast_79 (by decide) ?_
      exact ea_zret C hw (by decide) hf dX10_isPast_83
  · replace hf := ea_if_f hc1 hf
    refine lv_iload C.1 C.2.1 dX10_isPast_59 (lv_at hl 1 rfl) ?_
    refine lv_if_le (tgt := 68) C.1 C.2.1 dX10_isPast_61 (by decide) (fun hc3 => ?_) (fun hc3 => ?_)
    · replace hf := ea_if_t hc3 hf
      refine lv_iconst (v := 0) C.1 C.2.1 dX10_isPast_68 (by decide) ?_
      refine lv_goto (tgt := 83) C.1 C.2.1 dX10_isPast_69 (by decide) ?_
      exact ea_zret C hw (by decide) hf dX10_isPast_83
    · replace hf := ea_if_f hc3 hf
      refine lv_iconst (v := 1) C.1 C.2.1 dX10_isPast_64 (by decide) ?_
      refine lv_goto (tgt := 83) C.1 C.2.1 dX10_isPast_65 (by decide) ?_
      exact ea_zret C hw (by decide) hf dX10_isPast_83
set_option maxHeartbeats 4000000 in
set_option maxRecDepth 20000 in
theorem wX10_isPast_0 (C : ea_C p s m args meth cd cX10_isPast 7 (some .boolean) RX10) (hX : ea_X ids) : ∀ (x1 : Int32) (x2 : Int32) (x3 : Int32) (x4 : Int32) (M : eM) (H : Heap) (locs : List Loc) (ls : Array Slot), fX10_isPast_0 x1 x2 x3 x4 M = some res → ea_w E ids M s H locs → lv_has ls 7 [(0, .ref (E.1 0)), (1, .int x1), (2, .int x2), (3, .int x3), (4, .int x4)] → W p l e (ea_rm 4 94) s m args below meth cd H locs 0 0 (MQ below (ea_Qi E ids res) args s 0 0 (ea_Ad E ids)) (F0 m 0 ls []) := by
  intro x1 x2 x3 x4 M H locs ls hf  hw hl
  replace hf := (fX10_isPast_0.eq_1 ..).symm.trans hf
  refine lv_iconst (v := 0) C.1 C.2.1 dX10_isPast_0 (by decide) ?_
  refine lv_istore (lv' := [(5, .int (0 : Int32)), (0, .ref (E.1 0)), (1, .int x1), (2, .int x2), (3, .int x3), (4, .int x4)]) C.1 C.2.1 dX10_isPast_1 hl (by decide) rfl (fun ls hl => ?_)
  refine lv_iconst (v := 0) C.1 C.2.1 dX10_isPast_3 (by decide) ?_
  refine lv_istore (lv' := [(6, .int (0 : Int32)), (5, .int (0 : Int32)), (0, .ref (E.1 0)), (1, .int x1), (2, .int x2), (3, .int x3), (4, .int x4)]) C.1 C.2.1 dX10_isPast_4 hl (by decide) rfl (fun ls hl => ?_)
  exact wX10_isPast_6 C hX (wX10_isPast_55 C hX) ea_N _ _ _ _ _ _ _ _ _ _ hf hw (lv_sub hl [2, 3, 4, 5, 6, 1, 0] rfl)
set_option maxHeartbeats 4000000 in
set_option maxRecDepth 20000 in
theorem mX10_isPast {l : Launch} {E : eE} {ids : List Nat} (hX : ea_X ids) {x1 : Int32} {x2 : Int32} {x3 : Int32} {x4 : Int32} {M : eM} {res : Int32 × eM} (hf : fX10_isPast x1 x2 x3 x4 M = some res) : ea_Mi l yX10_isPast cX10_isPast 7 (some .boolean) 4 94 E ids [.ref (E.1 0), .int x1, .int x2, .int x3, .int x4] M res := by
  refine ea_goi (by decide) (Nat.le_of_ble_eq_true rfl) wc_X10_isPast ?_
  intro p e s m below meth cd ls C hw hl
  exact wX10_isPast_0 C hX _ _ _ _ _ _ _ _ hf hw hl
end SX10_isPast

def fX10_hoursPast_59 (k11 : Int32 → Int32 → Int32 → Int32 → Int32 → Int32 → eM → Option (Int32 × eM)) (x1 : Int32) (x2 : Int32) (x3 : Int32) (x4 : Int32) (x5 : Int32) (x6 : Int32) (M : eM) : Option (Int32 × eM) := k11 x1 x2 x3 x4 x5 (x6 + (1 : Int32)) M
def fX10_hoursPast_11 : Nat → Int32 → Int32 → Int32 → Int32 → Int32 → Int32 → eM → Option (Int32 × eM)
  | 0, _, _, _, _, _, _, _ => none
  | n + 1, x1, x2, x3, x4, x5, x6, M => if (12 : Int32) ≤ x6 then (some (x4, M)) else (if x5 ≤ x4 then (some (x4, M)) else (ea_ci (fX10_isPast x1 x2 x3 ((x4 + x5) / (2 : Int32)) M) (fun r4 M5 => if r4 = 0 then (ea_lt (((x4 + x5) / (2 : Int32)) + (1 : Int32)) (fun y7 => fX10_hoursPast_59 (fX10_hoursPast_11 n) x1 x2 x3 y7 x5 x6 M5)) else (fX10_hoursPast_59 (fX10_hoursPast_11 n) x1 x2 x3 x4 ((x4 + x5) / (2 : Int32)) x6 M5))))
def fX10_hoursPast_0 (x1 : Int32) (x2 : Int32) (x3 : Int32) (M : eM) : Option (Int32 × eM) := fX10_hoursPast_11 ea_N x1 x2 x3 (0 : Int32) (2000 : Int32) (0 : Int32) M
def fX10_hoursPast (x1 : Int32) (x2 : Int32) (x3 : Int32) (M : eM) : Option (Int32 × eM) := fX10_hoursPast_0 x1 x2 x3 M
section SX10_hoursPast
variable {p : Program} {l : Launch} {e : Env} {s : State} {m : MethodId} {args : Array Value} {below : List Frame} {meth : Method} {cd : Code} {E : eE} {ids : List Nat} {res : Int32 × eM}
set_option maxHeartbeats 4000000 in
set_option maxRecDepth 20000 in
theorem wX10_hoursPast_59 (C : ea_C p s m args meth cd cX10_hoursPast 8 (some .int) RX10) (hX : ea_X ids) {k11 : Int32 → Int32 → Int32 → Int32 → Int32 → Int32 → eM → Option (Int32 × eM)} (hk11 : ∀ (x1 : Int32) (x2 : Int32) (x3 : Int32) (x4 : Int32) (x5 : Int32) (x6 : Int32) (M : eM) (H : Heap) (locs : List Loc) (ls : Array Slot), k11 x1 x2 x3 x4 x5 x6 M = some res → ea_w E ids M s H locs → lv_has ls 8 [(0, .ref (E.1 0)), (1, .int x1), (2, .int x2), (3, .int x3), (4, .int x4), (5, .int x5), (6, .int x6)] → W p l e (ea_rm 5 120) s m args below meth cd H locs 0 0 (MQ below (ea_Qi E ids res) args s 0 0 (ea_Ad E ids)) (F0 m 11 ls [])) : ∀ (x1 : Int32) (x2 : Int32) (x3 : Int32) (x4 : Int32) (x5 : Int32) (x6 : Int32) (M : eM) (H : Heap) (locs : List Loc) (ls : Array Slot), fX10_hoursPast_59 k11 x1 x2 x3 x4 x5 x6 M = some res → ea_w E ids M s H locs → lv_has ls 8 [(0, .ref (E.1 0)), (1, .int x1), (2, .int x2), (3, .int x3), (4, .int x4), (5, .int x5), (6, .int x6)] → W p l e (ea_rm 5 120) s m args below meth cd H locs 0 0 (MQ below (ea_Qi E ids res) args s 0 0 (ea_Ad E ids)) (F0 m 59 ls []) := by
  intro x1 x2 x3 x4 x5 x6 M H locs ls hf  hw hl
  replace hf := (fX10_hoursPast_59.eq_1 ..).symm.trans hf
  refine lv_iinc (v := x6 + (1 : Int32)) (lv' := [(6, .int (x6 + (1 : Int32))), (0, .ref (E.1 0)), (1, .int x1), (2, .int x2), (3, .int x3), (4, .int x4), (5, .int x5)]) C.1 C.2.1 dX10_hoursPast_59 hl (k := 6) rfl rfl (by decide) rfl (fun ls hl => ?_)
  refine lv_goto (tgt := 11) C.1 C.2.1 dX10_hoursPast_62 (by decide) ?_
  exact hk11 _ _ _ _ _ _ _ _ _ _ hf hw (lv_sub hl [1, 2, 3, 4, 5, 6, 0] rfl)
set_option maxHeartbeats 4000000 in
set_option maxRecDepth 20000 in
theorem wX10_hoursPast_11 (C : ea_C p s m args meth cd cX10_hoursPast 8 (some .int) RX10) (hX : ea_X ids) : ∀ (n : Nat) (x1 : Int32) (x2 : Int32) (x3 : Int32) (x4 : Int32) (x5 : Int32) (x6 : Int32) (M : eM) (H : Heap) (locs : List Loc) (ls : Array Slot), fX10_hoursPast_11 n x1 x2 x3 x4 x5 x6 M = some res → ea_w E ids M s H locs → lv_has ls 8 [(0, .ref (E.1 0)), (1, .int x1), (2, .int x2), (3, .int x3), (4, .int x4), (5, .int x5), (6, .int x6)] → W p l e (ea_rm 5 120) s m args below meth cd H locs 0 0 (MQ below (ea_Qi E ids res) args s 0 0 (ea_Ad E ids)) (F0 m 11 ls []) := by
  intro n
  induction n with
  | zero => intro x1 x2 x3 x4 x5 x6 M H locs ls hf; cases hf
  | succ n ih =>
    intro x1 x2 x3 x4 x5 x6 M H locs ls hf  hw hl
    replace hf := (fX10_hoursPast_11.eq_2 ..).symm.trans hf
    refine lv_iload C.1 C.2.1 dX10_hoursPast_11 (lv_at hl 6 rfl) ?_
    refine lv_bipush (v := 12) C.1 C.2.1 dX10_hoursPast_13 (by decide) ?_
    refine lv_icmp_ge (tgt := 65) C.1 C.2.1 dX10_hoursPast_15 (by decide) (fun hc1 => ?_) (fun hc1 => ?_)
    · replace hf := ea_if_t hc1 hf
      refine lv_iload C.1 C.2.1 dX10_hoursPast_65 (lv_at hl 4 rfl) ?_
      exact ea_iret C hw hf dX10_hoursPast_67
    · replace hf := ea_if_f hc1 hf
      refine lv_iload C.1 C.2.1 dX10_hoursPast_18 (lv_at hl 4 rfl) ?_
      refine lv_iload C.1 C.2.1 dX10_hoursPast_20 (lv_at hl 5 rfl) ?_
      refine lv_icmp_ge (tgt := 65) C.1 C.2.1 dX10_hoursPast_22 (by decide) (fun hc2 => ?_) (fun hc2 => ?_)
      · replace hf := ea_if_t hc2 hf
        refine lv_iload C.1 C.2.1 dX10_hoursPast_65 (lv_at hl 4 rfl) ?_
        exact ea_iret C hw hf dX10_hoursPast_67
      · replace hf := ea_if_f hc2 hf
        refine lv_iload C.1 C.2.1 dX10_hoursPast_25 (lv_at hl 4 rfl) ?_
        refine lv_iload C.1 C.2.1 dX10_hoursPast_27 (lv_at hl 5 rfl) ?_
        refine lv_iadd C.1 C.2.1 dX10_hoursPast_29 ?_
        refine lv_iconst (v := 2) C.1 C.2.1 dX10_hoursPast_30 (by decide) ?_
        refine lv_idiv C.1 C.2.1 dX10_hoursPast_31 (by decide) ?_
        refine lv_istore (lv' := [(7, .int ((x4 + x5) / (2 : Int32))), (0, .ref (E.1 0)), (1, .int x1), (2, .int x2), (3, .int x3), (4, .int x4), (5, .int x5), (6, .int x6)]) C.1 C.2.1 dX10_hoursPast_32 hl (by decide) rfl (fun ls hl => ?_)
        refine lv_aload_n C.1 C.2.1 dX10_hoursPast_34 rfl (lv_at hl 1 rfl) ?_
        refine lv_iload_n C.1 C.2.1 dX10_hoursPast_35 rfl (lv_at hl 2 rfl) ?_
        refine lv_iload_n C.1 C.2.1 dX10_hoursPast_36 rfl (lv_at hl 3 rfl) ?_
        refine lv_iload_n C.1 C.2.1 dX10_hoursPast_37 rfl (lv_at hl 4 rfl) ?_
        refine lv_iload C.1 C.2.1 dX10_hoursPast_38 (lv_at hl 0 rfl) ?_
        obtain ⟨r4, M5, he3, hf⟩ := ea_ci_s hf
        refine ea_runi2 hw (cl_X10_365 C hw (hX 0 10 rfl) (As := [.int x1, .int x2, .int x3, .int ((x4 + x5) / (2 : Int32))]) (rest := []) (mX10_isPast (l := l) (E := E) (ids := ids) hX he3) (by decide) rfl hl.1 rfl (Nat.le_of_ble_eq_true rfl) dX10_hoursPast_40 ⟨Nat.le_refl _, Nat.le_refl _⟩) (fun H locs hw => ?_)
        refine lv_if_eq (tgt := 53) C.1 C.2.1 dX10_hoursPast_43 (by decide) (fun hc6 => ?_) (fun hc6 => ?_)
        · replace hf := ea_if_t hc6 hf
          refine lv_iload C.1 C.2.1 dX10_hoursPast_53 (lv_at hl 0 rfl) ?_
          refine lv_iconst (v := 1) C.1 C.2.1 dX10_hoursPast_55 (by decide) ?_
          refine lv_iadd C.1 C.2.1 dX10_hoursPast_56 ?_
          obtain ⟨y7, ey8, hf⟩ := ea_lt_s hf
          refine ea_topi ey8 ?_
          refine lv_istore (lv' := [(4, .int y7), (7, .int ((x4 + x5) / (2 : Int32))), (0, .ref (E.1 0)), (1, .int x1), (2, .int x2), (3, .int x3), (5, .int x5), (6, .int x6)]) C.1 C.2.1 dX10_hoursPast_57 hl (by decide) rfl (fun ls hl => ?_)
          exact wX10_hoursPast_59 C hX ih _ _ _ _ _ _ _ _ _ _ hf hw (lv_sub hl [2, 3, 4, 5, 0, 6, 7] rfl)
        · replace hf := ea_if_f hc6 hf
          refine lv_iload C.1 C.2.1 dX10_hoursPast_46 (lv_at hl 0 rfl) ?_
          refine lv_istore (lv' := [(5, .int ((x4 + x5) / (2 : Int32))), (7, .int ((x4 + x5) / (2 : Int32))), (0, .ref (E.1 0)), (1, .int x1), (2, .int x2), (3, .int x3), (4, .int x4), (6, .int x6)]) C.1 C.2.1 dX10_hoursPast_48 hl (by decide) rfl (fun ls hl => ?_)
          refine lv_goto (tgt := 59) C.1 C.2.1 dX10_hoursPast_50 (by decide) ?_
          exact wX10_hoursPast_59 C hX ih _ _ _ _ _ _ _ _ _ _ hf hw (lv_sub hl [2, 3, 4, 5, 6, 0, 7] rfl)
set_option maxHeartbeats 4000000 in
set_option maxRecDepth 20000 in
theorem wX10_hoursPast_0 (C : ea_C p s m args meth cd cX10_hoursPast 8 (some .int) RX10) (hX : ea_X ids) : ∀ (x1 : Int32) (x2 : Int32) (x3 : Int32) (M : eM) (H : Heap) (locs : List Loc) (ls : Array Slot), fX10_hoursPast_0 x1 x2 x3 M = some res → ea_w E ids M s H locs → lv_has ls 8 [(0, .ref (E.1 0)), (1, .int x1), (2, .int x2), (3, .int x3)] → W p l e (ea_rm 5 120) s m args below meth cd H locs 0 0 (MQ below (ea_Qi E ids res) args s 0 0 (ea_Ad E ids)) (F0 m 0 ls []) := by
  intro x1 x2 x3 M H locs ls hf  hw hl
  replace hf := (fX10_hoursPast_0.eq_1 ..).symm.trans hf
  refine lv_iconst (v := 0) C.1 C.2.1 dX10_hoursPast_0 (by decide) ?_
  refine lv_istore (lv' := [(4, .int (0 : Int32)), (0, .ref (E.1 0)), (1, .int x1), (2, .int x2), (3, .int x3)]) C.1 C.2.1 dX10_hoursPast_1 hl (by decide) rfl (fun ls hl => ?_)
  refine lv_sipush (v := 2000) C.1 C.2.1 dX10_hoursPast_3 (by decide) ?_
  refine lv_istore (lv' := [(5, .int (2000 : Int32)), (4, .int (0 : Int32)), (0, .ref (E.1 0)), (1, .int x1), (2, .int x2), (3, .int x3)]) C.1 C.2.1 dX10_hoursPast_6 hl (by decide) rfl (fun ls hl => ?_)
  refine lv_iconst (v := 0) C.1 C.2.1 dX10_hoursPast_8 (by decide) ?_
  refine lv_istore (lv' := [(6, .int (0 : Int32)), (5, .int (2000 : Int32)), (4, .int (0 : Int32)), (0, .ref (E.1 0)), (1, .int x1), (2, .int x2), (3, .int x3)]) C.1 C.2.1 dX10_hoursPast_9 hl (by decide) rfl (fun ls hl => ?_)
  exact wX10_hoursPast_11 C hX ea_N _ _ _ _ _ _ _ _ _ _ hf hw (lv_sub hl [3, 4, 5, 6, 2, 1, 0] rfl)
set_option maxHeartbeats 4000000 in
set_option maxRecDepth 20000 in
theorem mX10_hoursPast {l : Launch} {E : eE} {ids : List Nat} (hX : ea_X ids) {x1 : Int32} {x2 : Int32} {x3 : Int32} {M : eM} {res : Int32 × eM} (hf : fX10_hoursPast x1 x2 x3 M = some res) : ea_Mi l yX10_hoursPast cX10_hoursPast 8 (some .int) 5 120 E ids [.ref (E.1 0), .int x1, .int x2, .int x3] M res := by
  refine ea_goi (by decide) (Nat.le_of_ble_eq_true rfl) wc_X10_hoursPast ?_
  intro p e s m below meth cd ls C hw hl
  exact wX10_hoursPast_0 C hX _ _ _ _ _ _ _ hf hw hl
end SX10_hoursPast

def fX10_isGoneInFront_0 (x1 : Int32) (M : eM) : Option (Int32 × eM) := ea_ci (fX8_latestLook 30 x1 (0 : Int32) (999 : Int32) M) (fun r2 M3 => ea_ci (fX8_lookShade 30 r2 (0 : Int32) M3) (fun r5 M6 => if r5 = (-5 : Int32) then (some ((1 : Int32), M6)) else (some ((0 : Int32), M6))))
def fX10_isGoneInFront (x1 : Int32) (M : eM) : Option (Int32 × eM) := fX10_isGoneInFront_0 x1 M
section SX10_isGoneInFront
variable {p : Program} {l : Launch} {e : Env} {s : State} {m : MethodId} {args : Array Value} {below : List Frame} {meth : Method} {cd : Code} {E : eE} {ids : List Nat} {res : Int32 × eM}
set_option maxHeartbeats 4000000 in
set_option maxRecDepth 20000 in
theorem wX10_isGoneInFront_0 (C : ea_C p s m args meth cd cX10_isGoneInFront 2 (some .boolean) RX10) (hX : ea_X ids) : ∀ (x1 : Int32) (M : eM) (H : Heap) (locs : List Loc) (ls : Array Slot), fX10_isGoneInFront_0 x1 M = some res → ea_w E ids M s H locs → lv_has ls 2 [(0, .ref (E.1 0)), (1, .int x1)] → W p l e (ea_rm 1 25) s m args below meth cd H locs 0 0 (MQ below (ea_Qi E ids res) args s 0 0 (ea_Ad E ids)) (F0 m 0 ls []) := by
  intro x1 M H locs ls hf  hw hl
  replace hf := (fX10_isGoneInFront_0.eq_1 ..).symm.trans hf
  refine lv_aload_n C.1 C.2.1 dX10_isGoneInFront_0 rfl (lv_at hl 0 rfl) ?_
  refine gf_X10_44 C hw (hX 0 10 rfl) dX10_isGoneInFront_1 ?_
  refine lv_aload_n C.1 C.2.1 dX10_isGoneInFront_4 rfl (lv_at hl 0 rfl) ?_
  refine gf_X10_44 C hw (hX 0 10 rfl) dX10_isGoneInFront_5 ?_
  refine lv_iload_n C.1 C.2.1 dX10_isGoneInFront_8 rfl (lv_at hl 1 rfl) ?_
  refine lv_iconst (v := 0) C.1 C.2.1 dX10_isGoneInFront_9 (by decide) ?_
  refine lv_sipush (v := 999) C.1 C.2.1 dX10_isGoneInFront_10 (by decide) ?_
  obtain ⟨r2, M3, he1, hf⟩ := ea_ci_s hf
  refine ea_runi2 hw (cl_X10_228 C hw (hX 30 8 rfl) (As := [.int x1, .int (0 : Int32), .int (999 : Int32)]) (rest := [.ref (E.1 30)]) (mX8_latestLook (l := l) (E := E) (ids := ids) hX (hX 30 8 rfl) he1) (by decide) rfl hl.1 rfl (Nat.le_of_ble_eq_true rfl) dX10_isGoneInFront_13 ⟨Nat.le_refl _, Nat.le_refl _⟩) (fun H locs hw => ?_)
  refine lv_iconst (v := 0) C.1 C.2.1 dX10_isGoneInFront_16 (by decide) ?_
  obtain ⟨r5, M6, he4, hf⟩ := ea_ci_s hf
  refine ea_runi2 hw (cl_X10_231 C hw (hX 30 8 rfl) (As := [.int r2, .int (0 : Int32)]) (rest := []) (mX8_lookShade (l := l) (E := E) (ids := ids) hX (hX 30 8 rfl) he4) (by decide) rfl hl.1 rfl (Nat.le_of_ble_eq_true rfl) dX10_isGoneInFront_17 ⟨Nat.le_refl _, Nat.le_refl _⟩) (fun H locs hw => ?_)
  refine lv_bipush (v := (-5 : Int32)) C.1 C.2.1 dX10_isGoneInFront_20 (by decide) ?_
  refine lv_icmp_ne (tgt := 29) C.1 C.2.1 dX10_isGoneInFront_22 (by decide) (fun hc7 => ?_) (fun hc7 => ?_)
  · replace hf := ea_if_f hc7 hf
    refine lv_iconst (v := 0) C.1 C.2.1 dX10_isGoneInFront_29 (by decide) ?_
    exact ea_zret C hw (by decide) hf dX10_isGoneInFront_30
  · replace hf := ea_if_t hc7 hf
    refine lv_iconst (v := 1) C.1 C.2.1 dX10_isGoneInFront_25 (by decide) ?_
    refine lv_goto (tgt := 30) C.1 C.2.1 dX10_isGoneInFront_26 (by decide) ?_
    exact ea_zret C hw (by decide) hf dX10_isGoneInFront_30
set_option maxHeartbeats 4000000 in
set_option maxRecDepth 20000 in
theorem mX10_isGoneInFront {l : Launch} {E : eE} {ids : List Nat} (hX : ea_X ids) {x1 : Int32} {M : eM} {res : Int32 × eM} (hf : fX10_isGoneInFront x1 M = some res) : ea_Mi l yX10_isGoneInFront cX10_isGoneInFront 2 (some .boolean) 1 25 E ids [.ref (E.1 0), .int x1] M res := by
  refine ea_goi (by decide) (Nat.le_of_ble_eq_true rfl) wc_X10_isGoneInFront ?_
  intro p e s m below meth cd ls C hw hl
  exact wX10_isGoneInFront_0 C hX _ _ _ _ _ hf hw hl
end SX10_isGoneInFront

def fX10_isWithinSlack_16 : Nat → Int32 → Int32 → Int32 → Int32 → eM → Option (Int32 × eM)
  | 0, _, _, _, _, _ => none
  | n + 1, x1, x2, x3, x4, M => if (3 : Int32) ≤ x4 then (some ((1 : Int32), M)) else (ea_ci (fX9_shadeOf x1 x3 x4 M) (fun r3 M4 => ea_ci (fX8_lookShade 30 x2 x4 M4) (fun r6 M7 => ea_ck (ea_is (M7.2.2 4 0) 1) (if (ea_abs (r3 - r6)) ≤ (M7.1 (M7.2.2 4 0) 2) then (fX10_isWithinSlack_16 n x1 x2 x3 (x4 + (1 : Int32)) M7) else (some ((0 : Int32), M7))))))
def fX10_isWithinSlack_0 (x1 : Int32) (x2 : Int32) (x3 : Int32) (M : eM) : Option (Int32 × eM) := ea_ci (fX10_isWithin x3 (0 : Int32) (1999 : Int32) M) (fun r2 M3 => if r2 = 0 then (some ((0 : Int32), M3)) else (fX10_isWithinSlack_16 ea_N x1 x2 x3 (0 : Int32) M3))
def fX10_isWithinSlack (x1 : Int32) (x2 : Int32) (x3 : Int32) (M : eM) : Option (Int32 × eM) := fX10_isWithinSlack_0 x1 x2 x3 M
section SX10_isWithinSlack
variable {p : Program} {l : Launch} {e : Env} {s : State} {m : MethodId} {args : Array Value} {below : List Frame} {meth : Method} {cd : Code} {E : eE} {ids : List Nat} {res : Int32 × eM}
set_option maxHeartbeats 4000000 in
set_option maxRecDepth 20000 in
theorem wX10_isWithinSlack_16 (C : ea_C p s m args meth cd cX10_isWithinSlack 6 (some .boolean) RX10) (hX : ea_X ids) : ∀ (n : Nat) (x1 : Int32) (x2 : Int32) (x3 : Int32) (x4 : Int32) (M : eM) (H : Heap) (locs : List Loc) (ls : Array Slot), fX10_isWithinSlack_16 n x1 x2 x3 x4 M = some res → ea_w E ids M s H locs → lv_has ls 6 [(0, .ref (E.1 0)), (1, .int x1), (2, .int x2), (3, .int x3), (4, .int x4)] → W p l e (ea_rm 4 94) s m args below meth cd H locs 0 0 (MQ below (ea_Qi E ids res) args s 0 0 (ea_Ad E ids)) (F0 m 16 ls []) := by
  intro n
  induction n with
  | zero => intro x1 x2 x3 x4 M H locs ls hf; cases hf
  | succ n ih =>
    intro x1 x2 x3 x4 M H locs ls hf  hw hl
    replace hf := (fX10_isWithinSlack_16.eq_2 ..).symm.trans hf
    refine lv_iload C.1 C.2.1 dX10_isWithinSlack_16 (lv_at hl 4 rfl) ?_
    refine lv_iconst (v := 3) C.1 C.2.1 dX10_isWithinSlack_18 (by decide) ?_
    refine lv_icmp_ge (tgt := 72) C.1 C.2.1 dX10_isWithinSlack_19 (by decide) (fun hc1 => ?_) (fun hc1 => ?_)
    · replace hf := ea_if_t hc1 hf
      refine lv_iconst (v := 1) C.1 C.2.1 dX10_isWithinSlack_72 (by decide) ?_
      exact ea_zret C hw (by decide) hf dX10_isWithinSlack_73
    · replace hf := ea_if_f hc1 hf
      refine lv_aload_n C.1 C.2.1 dX10_isWithinSlack_22 rfl (lv_at hl 0 rfl) ?_
      refine gf_X10_24 C hw (hX 0 10 rfl) dX10_isWithinSlack_23 ?_
      refine lv_iload_n C.1 C.2.1 dX10_isWithinSlack_26 rfl (lv_at hl 1 rfl) ?_
      refine lv_iload_n C.1 C.2.1 dX10_isWithinSlack_27 rfl (lv_at hl 3 rfl) ?_
      refine lv_iload C.1 C.2.1 dX10_isWithinSlack_28 (lv_at hl 4 rfl) ?_
      obtain ⟨r3, M4, he2, hf⟩ := ea_ci_s hf
      refine ea_runi2 hw (cl_X10_189 C hw (hX 4 9 rfl) (As := [.int x1, .int x3, .int x4]) (rest := []) (mX9_shadeOf (l := l) (E := E) (ids := ids) hX he2) (by decide) rfl hl.1 rfl (Nat.le_of_ble_eq_true rfl) dX10_isWithinSlack_30 ⟨Nat.le_refl _, Nat.le_refl _⟩) (fun H locs hw => ?_)
      refine lv_aload_n C.1 C.2.1 dX10_isWithinSlack_33 rfl (lv_at hl 0 rfl) ?_
      refine gf_X10_44 C hw (hX 0 10 rfl) dX10_isWithinSlack_34 ?_
      refine lv_iload_n C.1 C.2.1 dX10_isWithinSlack_37 rfl (lv_at hl 2 rfl) ?_
      refine lv_iload C.1 C.2.1 dX10_isWithinSlack_38 (lv_at hl 4 rfl) ?_
      obtain ⟨r6, M7, he5, hf⟩ := ea_ci_s hf
      refine ea_runi2 hw (cl_X10_231 C hw (hX 30 8 rfl) (As := [.int x2, .int x4]) (rest := [.int r3]) (mX8_lookShade (l := l) (E := E) (ids := ids) hX (hX 30 8 rfl) he5) (by decide) rfl hl.1 rfl (Nat.le_of_ble_eq_true rfl) dX10_isWithinSlack_40 ⟨Nat.le_refl _, Nat.le_refl _⟩) (fun H locs hw => ?_)
      refine lv_isub C.1 C.2.1 dX10_isWithinSlack_43 ?_
      refine lv_istore (lv' := [(5, .int (r3 - r6)), (0, .ref (E.1 0)), (1, .int x1), (2, .int x2), (3, .int x3), (4, .int x4)]) C.1 C.2.1 dX10_isWithinSlack_44 hl (by decide) rfl (fun ls hl => ?_)
      refine lv_iload C.1 C.2.1 dX10_isWithinSlack_46 (lv_at hl 0 rfl) ?_
      refine mm_X10_360 C hl.1 (by decide) (Nat.le_of_ble_eq_true rfl) ⟨Nat.le_refl _, Nat.le_refl _⟩ dX10_isWithinSlack_48 ?_
      refine lv_aload_n C.1 C.2.1 dX10_isWithinSlack_51 rfl (lv_at hl 1 rfl) ?_
      refine gf_X10_24 C hw (hX 0 10 rfl) dX10_isWithinSlack_52 ?_
      refine gf_X10_110 C hw (hX 4 9 rfl) dX10_isWithinSlack_55 ?_
      obtain ⟨hc8, hf⟩ := ea_ck_s hf
      refine gf_X10_276 C hw (ea_dyn hX hc8) dX10_isWithinSlack_58 ?_
      refine lv_icmp_le (tgt := 66) C.1 C.2.1 dX10_isWithinSlack_61 (by decide) (fun hc9 => ?_) (fun hc9 => ?_)
      · replace hf := ea_if_t hc9 hf
        refine lv_iinc (v := x4 + (1 : Int32)) (lv' := [(4, .int (x4 + (1 : Int32))), (5, .int (r3 - r6)), (0, .ref (E.1 0)), (1, .int x1), (2, .int x2), (3, .int x3)]) C.1 C.2.1 dX10_isWithinSlack_66 hl (k := 5) rfl rfl (by decide) rfl (fun ls hl => ?_)
        refine lv_goto (tgt := 16) C.1 C.2.1 dX10_isWithinSlack_69 (by decide) ?_
        exact ih _ _ _ _ _ _ _ _ hf hw (lv_sub hl [2, 3, 4, 5, 0] rfl)
      · replace hf := ea_if_f hc9 hf
        refine lv_iconst (v := 0) C.1 C.2.1 dX10_isWithinSlack_64 (by decide) ?_
        exact ea_zret C hw (by decide) hf dX10_isWithinSlack_65
set_option maxHeartbeats 4000000 in
set_option maxRecDepth 20000 in
theorem wX10_isWithinSlack_0 (C : ea_C p s m args meth cd cX10_isWithinSlack 6 (some .boolean) RX10) (hX : ea_X ids) : ∀ (x1 : Int32) (x2 : Int32) (x3 : Int32) (M : eM) (H : Heap) (locs : List Loc) (ls : Array Slot), fX10_isWithinSlack_0 x1 x2 x3 M = some res → ea_w E ids M s H locs → lv_has ls 6 [(0, .ref (E.1 0)), (1, .int x1), (2, .int x2), (3, .int x3)] → W p l e (ea_rm 4 94) s m args below meth cd H locs 0 0 (MQ below (ea_Qi E ids res) args s 0 0 (ea_Ad E ids)) (F0 m 0 ls []) := by
  intro x1 x2 x3 M H locs ls hf  hw hl
  replace hf := (fX10_isWithinSlack_0.eq_1 ..).symm.trans hf
  refine lv_iload_n C.1 C.2.1 dX10_isWithinSlack_0 rfl (lv_at hl 3 rfl) ?_
  refine lv_iconst (v := 0) C.1 C.2.1 dX10_isWithinSlack_1 (by decide) ?_
  refine lv_sipush (v := 1999) C.1 C.2.1 dX10_isWithinSlack_2 (by decide) ?_
  obtain ⟨r2, M3, he1, hf⟩ := ea_ci_s hf
  refine ea_runi2 hw (cl_X10_133 C hw (As := [.int x3, .int (0 : Int32), .int (1999 : Int32)]) (rest := []) (mX10_isWithin (l := l) (E := E) (ids := ids) hX he1) (by decide) rfl hl.1 rfl (Nat.le_of_ble_eq_true rfl) dX10_isWithinSlack_5 ⟨Nat.le_refl _, Nat.le_refl _⟩) (fun H locs hw => ?_)
  refine lv_if_ne (tgt := 13) C.1 C.2.1 dX10_isWithinSlack_8 (by decide) (fun hc4 => ?_) (fun hc4 => ?_)
  · replace hf := ea_if_f hc4 hf
    refine lv_iconst (v := 0) C.1 C.2.1 dX10_isWithinSlack_13 (by decide) ?_
    refine lv_istore (lv' := [(4, .int (0 : Int32)), (0, .ref (E.1 0)), (1, .int x1), (2, .int x2), (3, .int x3)]) C.1 C.2.1 dX10_isWithinSlack_14 hl (by decide) rfl (fun ls hl => ?_)
    exact wX10_isWithinSlack_16 C hX ea_N _ _ _ _ _ _ _ _ hf hw (lv_sub hl [1, 2, 3, 4, 0] rfl)
  · replace hf := ea_if_t hc4 hf
    refine lv_iconst (v := 0) C.1 C.2.1 dX10_isWithinSlack_11 (by decide) ?_
    exact ea_zret C hw (by decide) hf dX10_isWithinSlack_12
set_option maxHeartbeats 4000000 in
set_option maxRecDepth 20000 in
theorem mX10_isWithinSlack {l : Launch} {E : eE} {ids : List Nat} (hX : ea_X ids) {x1 : Int32} {x2 : Int32} {x3 : Int32} {M : eM} {res : Int32 × eM} (hf : fX10_isWithinSlack x1 x2 x3 M = some res) : ea_Mi l yX10_isWithinSlack cX10_isWithinSlack 6 (some .boolean) 4 94 E ids [.ref (E.1 0), .int x1, .int x2, .int x3] M res := by
  refine ea_goi (by decide) (Nat.le_of_ble_eq_true rfl) wc_X10_isWithinSlack ?_
  intro p e s m below meth cd ls C hw hl
  exact wX10_isWithinSlack_0 C hX _ _ _ _ _ _ _ hf hw hl
end SX10_isWithinSlack

def fX8_copyFrom_0 (a0 : Nat) (a1 : Nat) (M : eM) : Option (eM) := ea_ck (ea_cpok (a1 + 1) (a0 + 1) (((ea_pI (ea_pI (ea_pI (ea_pI M a0 3 (M.1 a1 3)) a0 4 ((ea_pI M a0 3 (M.1 a1 3)).1 a1 4)) a0 5 ((ea_pI (ea_pI M a0 3 (M.1 a1 3)) a0 4 ((ea_pI M a0 3 (M.1 a1 3)).1 a1 4)).1 a1 5)) a0 6 ((ea_pI (ea_pI (ea_pI M a0 3 (M.1 a1 3)) a0 4 ((ea_pI M a0 3 (M.1 a1 3)).1 a1 4)) a0 5 ((ea_pI (ea_pI M a0 3 (M.1 a1 3)) a0 4 ((ea_pI M a0 3 (M.1 a1 3)).1 a1 4)).1 a1 5)).1 a1 6)).1 a0 3) * (6 : Int32))) (ea_ck (ea_cpok (a1 + 2) (a0 + 2) (((ea_cp (ea_pI (ea_pI (ea_pI (ea_pI M a0 3 (M.1 a1 3)) a0 4 ((ea_pI M a0 3 (M.1 a1 3)).1 a1 4)) a0 5 ((ea_pI (ea_pI M a0 3 (M.1 a1 3)) a0 4 ((ea_pI M a0 3 (M.1 a1 3)).1 a1 4)).1 a1 5)) a0 6 ((ea_pI (ea_pI (ea_pI M a0 3 (M.1 a1 3)) a0 4 ((ea_pI M a0 3 (M.1 a1 3)).1 a1 4)) a0 5 ((ea_pI (ea_pI M a0 3 (M.1 a1 3)) a0 4 ((ea_pI M a0 3 (M.1 a1 3)).1 a1 4)).1 a1 5)).1 a1 6)) (a1 + 1) (a0 + 1) (((ea_pI (ea_pI (ea_pI (ea_pI M a0 3 (M.1 a1 3)) a0 4 ((ea_pI M a0 3 (M.1 a1 3)).1 a1 4)) a0 5 ((ea_pI (ea_pI M a0 3 (M.1 a1 3)) a0 4 ((ea_pI M a0 3 (M.1 a1 3)).1 a1 4)).1 a1 5)) a0 6 ((ea_pI (ea_pI (ea_pI M a0 3 (M.1 a1 3)) a0 4 ((ea_pI M a0 3 (M.1 a1 3)).1 a1 4)) a0 5 ((ea_pI (ea_pI M a0 3 (M.1 a1 3)) a0 4 ((ea_pI M a0 3 (M.1 a1 3)).1 a1 4)).1 a1 5)).1 a1 6)).1 a0 3) * (6 : Int32))).1 a0 4) * (6 : Int32))) (ea_ck (ea_cpok (a1 + 3) (a0 + 3) (((ea_cp (ea_cp (ea_pI (ea_pI (ea_pI (ea_pI M a0 3 (M.1 a1 3)) a0 4 ((ea_pI M a0 3 (M.1 a1 3)).1 a1 4)) a0 5 ((ea_pI (ea_pI M a0 3 (M.1 a1 3)) a0 4 ((ea_pI M a0 3 (M.1 a1 3)).1 a1 4)).1 a1 5)) a0 6 ((ea_pI (ea_pI (ea_pI M a0 3 (M.1 a1 3)) a0 4 ((ea_pI M a0 3 (M.1 a1 3)).1 a1 4)) a0 5 ((ea_pI (ea_pI M a0 3 (M.1 a1 3)) a0 4 ((ea_pI M a0 3 (M.1 a1 3)).1 a1 4)).1 a1 5)).1 a1 6)) (a1 + 1) (a0 + 1) (((ea_pI (ea_pI (ea_pI (ea_pI M a0 3 (M.1 a1 3)) a0 4 ((ea_pI M a0 3 (M.1 a1 3)).1 a1 4)) a0 5 ((ea_pI (ea_pI M a0 3 (M.1 a1 3)) a0 4 ((ea_pI M a0 3 (M.1 a1 3)).1 a1 4)).1 a1 5)) a0 6 ((ea_pI (ea_pI (ea_pI M a0 3 (M.1 a1 3)) a0 4 ((ea_pI M a0 3 (M.1 a1 3)).1 a1 4)) a0 5 ((ea_pI (ea_pI M a0 3 (M.1 a1 3)) a0 4 ((ea_pI M a0 3 (M.1 a1 3)).1 a1 4)).1 a1 5)).1 a1 6)).1 a0 3) * (6 : Int32))) (a1 + 2) (a0 + 2) (((ea_cp (ea_pI (ea_pI (ea_pI (ea_pI M a0 3 (M.1 a1 3)) a0 4 ((ea_pI M a0 3 (M.1 a1 3)).1 a1 4)) a0 5 ((ea_pI (ea_pI M a0 3 (M.1 a1 3)) a0 4 ((ea_pI M a0 3 (M.1 a1 3)).1 a1 4)).1 a1 5)) a0 6 ((ea_pI (ea_pI (ea_pI M a0 3 (M.1 a1 3)) a0 4 ((ea_pI M a0 3 (M.1 a1 3)).1 a1 4)) a0 5 ((ea_pI (ea_pI M a0 3 (M.1 a1 3)) a0 4 ((ea_pI M a0 3 (M.1 a1 3)).1 a1 4)).1 a1 5)).1 a1 6)) (a1 + 1) (a0 + 1) (((ea_pI (ea_pI (ea_pI (ea_pI M a0 3 (M.1 a1 3)) a0 4 ((ea_pI M a0 3 (M.1 a1 3)).1 a1 4)) a0 5 ((ea_pI (ea_pI M a0 3 (M.1 a1 3)) a0 4 ((ea_pI M a0 3 (M.1 a1 3)).1 a1 4)).1 a1 5)) a0 6 ((ea_pI (ea_pI (ea_pI M a0 3 (M.1 a1 3)) a0 4 ((ea_pI M a0 3 (M.1 a1 3)).1 a1 4)) a0 5 ((ea_pI (ea_pI M a0 3 (M.1 a1 3)) a0 4 ((ea_pI M a0 3 (M.1 a1 3)).1 a1 4)).1 a1 5)).1 a1 6)).1 a0 3) * (6 : Int32))).1 a0 4) * (6 : Int32))).1 a0 5) * (6 : Int32))) (some (ea_cp (ea_cp (ea_cp (ea_pI (ea_pI (ea_pI (ea_pI M a0 3 (M.1 a1 3)) a0 4 ((ea_pI M a0 3 (M.1 a1 3)).1 a1 4)) a0 5 ((ea_pI (ea_pI M a0 3 (M.1 a1 3)) a0 4 ((ea_pI M a0 3 (M.1 a1 3)).1 a1 4)).1 a1 5)) a0 6 ((ea_pI (ea_pI (ea_pI M a0 3 (M.1 a1 3)) a0 4 ((ea_pI M a0 3 (M.1 a1 3)).1 a1 4)) a0 5 ((ea_pI (ea_pI M a0 3 (M.1 a1 3)) a0 4 ((ea_pI M a0 3 (M.1 a1 3)).1 a1 4)).1 a1 5)).1 a1 6)) (a1 + 1) (a0 + 1) (((ea_pI (ea_pI (ea_pI (ea_pI M a0 3 (M.1 a1 3)) a0 4 ((ea_pI M a0 3 (M.1 a1 3)).1 a1 4)) a0 5 ((ea_pI (ea_pI M a0 3 (M.1 a1 3)) a0 4 ((ea_pI M a0 3 (M.1 a1 3)).1 a1 4)).1 a1 5)) a0 6 ((ea_pI (ea_pI (ea_pI M a0 3 (M.1 a1 3)) a0 4 ((ea_pI M a0 3 (M.1 a1 3)).1 a1 4)) a0 5 ((ea_pI (ea_pI M a0 3 (M.1 a1 3)) a0 4 ((ea_pI M a0 3 (M.1 a1 3)).1 a1 4)).1 a1 5)).1 a1 6)).1 a0 3) * (6 : Int32))) (a1 + 2) (a0 + 2) (((ea_cp (ea_pI (ea_pI (ea_pI (ea_pI M a0 3 (M.1 a1 3)) a0 4 ((ea_pI M a0 3 (M.1 a1 3)).1 a1 4)) a0 5 ((ea_pI (ea_pI M a0 3 (M.1 a1 3)) a0 4 ((ea_pI M a0 3 (M.1 a1 3)).1 a1 4)).1 a1 5)) a0 6 ((ea_pI (ea_pI (ea_pI M a0 3 (M.1 a1 3)) a0 4 ((ea_pI M a0 3 (M.1 a1 3)).1 a1 4)) a0 5 ((ea_pI (ea_pI M a0 3 (M.1 a1 3)) a0 4 ((ea_pI M a0 3 (M.1 a1 3)).1 a1 4)).1 a1 5)).1 a1 6)) (a1 + 1) (a0 + 1) (((ea_pI (ea_pI (ea_pI (ea_pI M a0 3 (M.1 a1 3)) a0 4 ((ea_pI M a0 3 (M.1 a1 3)).1 a1 4)) a0 5 ((ea_pI (ea_pI M a0 3 (M.1 a1 3)) a0 4 ((ea_pI M a0 3 (M.1 a1 3)).1 a1 4)).1 a1 5)) a0 6 ((ea_pI (ea_pI (ea_pI M a0 3 (M.1 a1 3)) a0 4 ((ea_pI M a0 3 (M.1 a1 3)).1 a1 4)) a0 5 ((ea_pI (ea_pI M a0 3 (M.1 a1 3)) a0 4 ((ea_pI M a0 3 (M.1 a1 3)).1 a1 4)).1 a1 5)).1 a1 6)).1 a0 3) * (6 : Int32))).1 a0 4) * (6 : Int32))) (a1 + 3) (a0 + 3) (((ea_cp (ea_cp (ea_pI (ea_pI (ea_pI (ea_pI M a0 3 (M.1 a1 3)) a0 4 ((ea_pI M a0 3 (M.1 a1 3)).1 a1 4)) a0 5 ((ea_pI (ea_pI M a0 3 (M.1 a1 3)) a0 4 ((ea_pI M a0 3 (M.1 a1 3)).1 a1 4)).1 a1 5)) a0 6 ((ea_pI (ea_pI (ea_pI M a0 3 (M.1 a1 3)) a0 4 ((ea_pI M a0 3 (M.1 a1 3)).1 a1 4)) a0 5 ((ea_pI (ea_pI M a0 3 (M.1 a1 3)) a0 4 ((ea_pI M a0 3 (M.1 a1 3)).1 a1 4)).1 a1 5)).1 a1 6)) (a1 + 1) (a0 + 1) (((ea_pI (ea_pI (ea_pI (ea_pI M a0 3 (M.1 a1 3)) a0 4 ((ea_pI M a0 3 (M.1 a1 3)).1 a1 4)) a0 5 ((ea_pI (ea_pI M a0 3 (M.1 a1 3)) a0 4 ((ea_pI M a0 3 (M.1 a1 3)).1 a1 4)).1 a1 5)) a0 6 ((ea_pI (ea_pI (ea_pI M a0 3 (M.1 a1 3)) a0 4 ((ea_pI M a0 3 (M.1 a1 3)).1 a1 4)) a0 5 ((ea_pI (ea_pI M a0 3 (M.1 a1 3)) a0 4 ((ea_pI M a0 3 (M.1 a1 3)).1 a1 4)).1 a1 5)).1 a1 6)).1 a0 3) * (6 : Int32))) (a1 + 2) (a0 + 2) (((ea_cp (ea_pI (ea_pI (ea_pI (ea_pI M a0 3 (M.1 a1 3)) a0 4 ((ea_pI M a0 3 (M.1 a1 3)).1 a1 4)) a0 5 ((ea_pI (ea_pI M a0 3 (M.1 a1 3)) a0 4 ((ea_pI M a0 3 (M.1 a1 3)).1 a1 4)).1 a1 5)) a0 6 ((ea_pI (ea_pI (ea_pI M a0 3 (M.1 a1 3)) a0 4 ((ea_pI M a0 3 (M.1 a1 3)).1 a1 4)) a0 5 ((ea_pI (ea_pI M a0 3 (M.1 a1 3)) a0 4 ((ea_pI M a0 3 (M.1 a1 3)).1 a1 4)).1 a1 5)).1 a1 6)) (a1 + 1) (a0 + 1) (((ea_pI (ea_pI (ea_pI (ea_pI M a0 3 (M.1 a1 3)) a0 4 ((ea_pI M a0 3 (M.1 a1 3)).1 a1 4)) a0 5 ((ea_pI (ea_pI M a0 3 (M.1 a1 3)) a0 4 ((ea_pI M a0 3 (M.1 a1 3)).1 a1 4)).1 a1 5)) a0 6 ((ea_pI (ea_pI (ea_pI M a0 3 (M.1 a1 3)) a0 4 ((ea_pI M a0 3 (M.1 a1 3)).1 a1 4)) a0 5 ((ea_pI (ea_pI M a0 3 (M.1 a1 3)) a0 4 ((ea_pI M a0 3 (M.1 a1 3)).1 a1 4)).1 a1 5)).1 a1 6)).1 a0 3) * (6 : Int32))).1 a0 4) * (6 : Int32))).1 a0 5) * (6 : Int32))))))
def fX8_copyFrom (a0 : Nat) (a1 : Nat) (M : eM) : Option (eM) := fX8_copyFrom_0 a0 a1 M
section SX8_copyFrom
variable {p : Program} {l : Launch} {e : Env} {s : State} {m : MethodId} {args : Array Value} {below : List Frame} {meth : Method} {cd : Code} {E : eE} {ids : List Nat} {res : eM} {a0 a1 : Nat}
set_option maxHeartbeats 4000000 in
set_option maxRecDepth 20000 in
theorem wX8_copyFrom_0 (C : ea_C p s m args meth cd cX8_copyFrom 2 none RX8) (hX : ea_X ids) (ho0 : ea_ok ids a0 8) (ho1 : ea_ok ids a1 8) : ∀  (M : eM) (H : Heap) (locs : List Loc) (ls : Array Slot), fX8_copyFrom_0 a0 a1 M = some res → ea_w E ids M s H locs → lv_has ls 2 [(0, .ref (E.1 a0)), (1, .ref (E.1 a1))] → W p l e (ea_rm 1 40) s m args below meth cd H locs 0 0 (MQ below (ea_Qv E ids res) args s 0 0 (ea_Ad E ids)) (F0 m 0 ls []) := by
  intro M H locs ls hf  hw hl
  replace hf := (fX8_copyFrom_0.eq_1 ..).symm.trans hf
  refine lv_aload_n C.1 C.2.1 dX8_copyFrom_0 rfl (lv_at hl 0 rfl) ?_
  refine lv_aload_n C.1 C.2.1 dX8_copyFrom_1 rfl (lv_at hl 1 rfl) ?_
  refine gf_X8_21 C hw ho1 dX8_copyFrom_2 ?_
  refine pu_X8_21 C hw ho0 dX8_copyFrom_5 (fun H locs hw => ?_)
  refine lv_aload_n C.1 C.2.1 dX8_copyFrom_8 rfl (lv_at hl 0 rfl) ?_
  refine lv_aload_n C.1 C.2.1 dX8_copyFrom_9 rfl (lv_at hl 1 rfl) ?_
  refine gf_X8_25 C hw ho1 dX8_copyFrom_10 ?_
  refine pu_X8_25 C hw ho0 dX8_copyFrom_13 (fun H locs hw => ?_)
  refine lv_aload_n C.1 C.2.1 dX8_copyFrom_16 rfl (lv_at hl 0 rfl) ?_
  refine lv_aload_n C.1 C.2.1 dX8_copyFrom_17 rfl (lv_at hl 1 rfl) ?_
  refine gf_X8_28 C hw ho1 dX8_copyFrom_18 ?_
  refine pu_X8_28 C hw ho0 dX8_copyFrom_21 (fun H locs hw => ?_)
  refine lv_aload_n C.1 C.2.1 dX8_copyFrom_24 rfl (lv_at hl 0 rfl) ?_
  refine lv_aload_n C.1 C.2.1 dX8_copyFrom_25 rfl (lv_at hl 1 rfl) ?_
  refine gf_X8_31 C hw ho1 dX8_copyFrom_26 ?_
  refine pu_X8_31 C hw ho0 dX8_copyFrom_29 (fun H locs hw => ?_)
  refine lv_aload_n C.1 C.2.1 dX8_copyFrom_32 rfl (lv_at hl 1 rfl) ?_
  refine gf_X8_11 C hw ho1 dX8_copyFrom_33 ?_
  refine lv_iconst (v := 0) C.1 C.2.1 dX8_copyFrom_36 (by decide) ?_
  refine lv_aload_n C.1 C.2.1 dX8_copyFrom_37 rfl (lv_at hl 0 rfl) ?_
  refine gf_X8_11 C hw ho0 dX8_copyFrom_38 ?_
  refine lv_iconst (v := 0) C.1 C.2.1 dX8_copyFrom_41 (by decide) ?_
  refine lv_aload_n C.1 C.2.1 dX8_copyFrom_42 rfl (lv_at hl 0 rfl) ?_
  refine gf_X8_21 C hw ho0 dX8_copyFrom_43 ?_
  refine lv_bipush (v := 6) C.1 C.2.1 dX8_copyFrom_46 (by decide) ?_
  refine lv_imul C.1 C.2.1 dX8_copyFrom_48 ?_
  obtain ⟨hc1, hf⟩ := ea_ck_s hf
  refine ac_X8_34 C hw (ok_8_0 ho1) (ok_8_0 ho0) hc1 hl.1 (by decide) (Nat.le_of_ble_eq_true rfl) dX8_copyFrom_49 (fun H locs hw => ?_)
  refine lv_aload_n C.1 C.2.1 dX8_copyFrom_52 rfl (lv_at hl 1 rfl) ?_
  refine gf_X8_15 C hw ho1 dX8_copyFrom_53 ?_
  refine lv_iconst (v := 0) C.1 C.2.1 dX8_copyFrom_56 (by decide) ?_
  refine lv_aload_n C.1 C.2.1 dX8_copyFrom_57 rfl (lv_at hl 0 rfl) ?_
  refine gf_X8_15 C hw ho0 dX8_copyFrom_58 ?_
  refine lv_iconst (v := 0) C.1 C.2.1 dX8_copyFrom_61 (by decide) ?_
  refine lv_aload_n C.1 C.2.1 dX8_copyFrom_62 rfl (lv_at hl 0 rfl) ?_
  refine gf_X8_25 C hw ho0 dX8_copyFrom_63 ?_
  refine lv_bipush (v := 6) C.1 C.2.1 dX8_copyFrom_66 (by decide) ?_
  refine lv_imul C.1 C.2.1 dX8_copyFrom_68 ?_
  obtain ⟨hc2, hf⟩ := ea_ck_s hf
  refine ac_X8_34 C hw (ok_8_1 ho1) (ok_8_1 ho0) hc2 hl.1 (by decide) (Nat.le_of_ble_eq_true rfl) dX8_copyFrom_69 (fun H locs hw => ?_)
  refine lv_aload_n C.1 C.2.1 dX8_copyFrom_72 rfl (lv_at hl 1 rfl) ?_
  refine gf_X8_18 C hw ho1 dX8_copyFrom_73 ?_
  refine lv_iconst (v := 0) C.1 C.2.1 dX8_copyFrom_76 (by decide) ?_
  refine lv_aload_n C.1 C.2.1 dX8_copyFrom_77 rfl (lv_at hl 0 rfl) ?_
  refine gf_X8_18 C hw ho0 dX8_copyFrom_78 ?_
  refine lv_iconst (v := 0) C.1 C.2.1 dX8_copyFrom_81 (by decide) ?_
  refine lv_aload_n C.1 C.2.1 dX8_copyFrom_82 rfl (lv_at hl 0 rfl) ?_
  refine gf_X8_28 C hw ho0 dX8_copyFrom_83 ?_
  refine lv_bipush (v := 6) C.1 C.2.1 dX8_copyFrom_86 (by decide) ?_
  refine lv_imul C.1 C.2.1 dX8_copyFrom_88 ?_
  obtain ⟨hc3, hf⟩ := ea_ck_s hf
  refine ac_X8_34 C hw (ok_8_2 ho1) (ok_8_2 ho0) hc3 hl.1 (by decide) (Nat.le_of_ble_eq_true rfl) dX8_copyFrom_89 (fun H locs hw => ?_)
  exact ea_vret C hw hf dX8_copyFrom_92
set_option maxHeartbeats 4000000 in
set_option maxRecDepth 20000 in
theorem mX8_copyFrom {l : Launch} {E : eE} {ids : List Nat} (hX : ea_X ids) {a0 : Nat} {a1 : Nat} (ho0 : ea_ok ids a0 8) (ho1 : ea_ok ids a1 8) {M : eM} {res : eM} (hf : fX8_copyFrom a0 a1 M = some res) : ea_Mv l yX8_copyFrom cX8_copyFrom 2 1 40 E ids [.ref (E.1 a0), .ref (E.1 a1)] M res := by
  refine ea_gov (by decide) (Nat.le_of_ble_eq_true rfl) wc_X8_copyFrom ?_
  intro p e s m below meth cd ls C hw hl
  exact wX8_copyFrom_0 C hX ho0 ho1  _ _ _ _ hf hw hl
end SX8_copyFrom

def fX10_keep_0 (x1 : Int32) (M : eM) : Option (Int32 × eM) := ea_ci (fX10_isWithin x1 (0 : Int32) ((nI (ea_len 46)) - (1 : Int32)) M) (fun r2 M3 => if r2 = 0 then (some ((-2 : Int32), M3)) else (ea_ck (ea_ix x1 (ea_len 46)) (ea_cv (fX8_copyFrom (34 + 4 * x1.toNatClampNeg) 30 M3) (fun M7 => ea_ck (ea_ix x1 (ea_len 46)) (some ((ea_pI M7 (34 + 4 * x1.toNatClampNeg) 7 (1 : Int32)).1 30 3, ea_pI M7 (34 + 4 * x1.toNatClampNeg) 7 (1 : Int32)))))))
def fX10_keep (x1 : Int32) (M : eM) : Option (Int32 × eM) := fX10_keep_0 x1 M
section SX10_keep
variable {p : Program} {l : Launch} {e : Env} {s : State} {m : MethodId} {args : Array Value} {below : List Frame} {meth : Method} {cd : Code} {E : eE} {ids : List Nat} {res : Int32 × eM}
set_option maxHeartbeats 4000000 in
set_option maxRecDepth 20000 in
theorem wX10_keep_0 (C : ea_C p s m args meth cd cX10_keep 2 (some .int) RX10) (hX : ea_X ids) : ∀ (x1 : Int32) (M : eM) (H : Heap) (locs : List Loc) (ls : Array Slot), fX10_keep_0 x1 M = some res → ea_w E ids M s H locs → lv_has ls 2 [(0, .ref (E.1 0)), (1, .int x1)] → W p l e (ea_rm 2 61) s m args below meth cd H locs 0 0 (MQ below (ea_Qi E ids res) args s 0 0 (ea_Ad E ids)) (F0 m 0 ls []) := by
  intro x1 M H locs ls hf  hw hl
  replace hf := (fX10_keep_0.eq_1 ..).symm.trans hf
  refine lv_iload_n C.1 C.2.1 dX10_keep_0 rfl (lv_at hl 1 rfl) ?_
  refine lv_iconst (v := 0) C.1 C.2.1 dX10_keep_1 (by decide) ?_
  refine lv_aload_n C.1 C.2.1 dX10_keep_2 rfl (lv_at hl 0 rfl) ?_
  refine gf_X10_48 C hw (hX 0 10 rfl) dX10_keep_3 ?_
  refine ea_alen C hw (hX 46 24 rfl) (by decide) dX10_keep_6 ?_
  refine lv_iconst (v := 1) C.1 C.2.1 dX10_keep_7 (by decide) ?_
  refine lv_isub C.1 C.2.1 dX10_keep_8 ?_
  obtain ⟨r2, M3, he1, hf⟩ := ea_ci_s hf
  refine ea_runi2 hw (cl_X10_133 C hw (As := [.int x1, .int (0 : Int32), .int ((nI (ea_len 46)) - (1 : Int32))]) (rest := []) (mX10_isWithin (l := l) (E := E) (ids := ids) hX he1) (by decide) rfl hl.1 rfl (Nat.le_of_ble_eq_true rfl) dX10_keep_9 ⟨Nat.le_refl _, Nat.le_refl _⟩) (fun H locs hw => ?_)
  refine lv_if_ne (tgt := 18) C.1 C.2.1 dX10_keep_12 (by decide) (fun hc4 => ?_) (fun hc4 => ?_)
  · replace hf := ea_if_f hc4 hf
    refine lv_aload_n C.1 C.2.1 dX10_keep_18 rfl (lv_at hl 0 rfl) ?_
    refine gf_X10_48 C hw (hX 0 10 rfl) dX10_keep_19 ?_
    refine lv_iload_n C.1 C.2.1 dX10_keep_22 rfl (lv_at hl 1 rfl) ?_
    obtain ⟨hc5, hf⟩ := ea_ck_s hf
    refine ea_aald C hw (hX 46 24 rfl) hc5 dX10_keep_23 ?_
    refine lv_aload_n C.1 C.2.1 dX10_keep_24 rfl (lv_at hl 0 rfl) ?_
    refine gf_X10_44 C hw (hX 0 10 rfl) dX10_keep_25 ?_
    obtain ⟨M7, he6, hf⟩ := ea_cv_s hf
    refine ea_runv hw (cl_X10_234 C hw (ok_slot hX (ea_ixs hc5)) (As := [.ref (E.1 30)]) (rest := []) (mX8_copyFrom (l := l) (E := E) (ids := ids) hX (ok_slot hX (ea_ixs hc5)) (hX 30 8 rfl) he6) (by decide) rfl hl.1 rfl (Nat.le_of_ble_eq_true rfl) dX10_keep_28 ⟨Nat.le_refl _, Nat.le_refl _⟩) (fun H locs hw => ?_)
    refine lv_aload_n C.1 C.2.1 dX10_keep_31 rfl (lv_at hl 0 rfl) ?_
    refine gf_X10_48 C hw (hX 0 10 rfl) dX10_keep_32 ?_
    refine lv_iload_n C.1 C.2.1 dX10_keep_35 rfl (lv_at hl 1 rfl) ?_
    obtain ⟨hc8, hf⟩ := ea_ck_s hf
    refine ea_aald C hw (hX 46 24 rfl) hc8 dX10_keep_36 ?_
    refine lv_iconst (v := 1) C.1 C.2.1 dX10_keep_37 (by decide) ?_
    refine pu_X10_119 C hw (ok_slot hX (ea_ixs hc8)) (by decide) dX10_keep_38 (fun H locs hw => ?_)
    refine lv_aload_n C.1 C.2.1 dX10_keep_41 rfl (lv_at hl 0 rfl) ?_
    refine gf_X10_44 C hw (hX 0 10 rfl) dX10_keep_42 ?_
    refine gf_X10_202 C hw (hX 30 8 rfl) dX10_keep_45 ?_
    exact ea_iret C hw hf dX10_keep_48
  · replace hf := ea_if_t hc4 hf
    refine lv_bipush (v := (-2 : Int32)) C.1 C.2.1 dX10_keep_15 (by decide) ?_
    exact ea_iret C hw hf dX10_keep_17
set_option maxHeartbeats 4000000 in
set_option maxRecDepth 20000 in
theorem mX10_keep {l : Launch} {E : eE} {ids : List Nat} (hX : ea_X ids) {x1 : Int32} {M : eM} {res : Int32 × eM} (hf : fX10_keep x1 M = some res) : ea_Mi l yX10_keep cX10_keep 2 (some .int) 2 61 E ids [.ref (E.1 0), .int x1] M res := by
  refine ea_goi (by decide) (Nat.le_of_ble_eq_true rfl) wc_X10_keep ?_
  intro p e s m below meth cd ls C hw hl
  exact wX10_keep_0 C hX _ _ _ _ _ hf hw hl
end SX10_keep

def fX10_lightBack_0 (x1 : Int32) (x2 : Int32) (x3 : Int32) (x4 : Int32) (x5 : Int32) (M : eM) : Option (Int32 × eM) := ea_ci (fX10_isCell x1 M) (fun r2 M3 => if r2 = 0 then (some ((-2 : Int32), M3)) else (ea_ci (fX10_isSide x2 M3) (fun r6 M7 => if r6 = 0 then (some ((-2 : Int32), M7)) else (ea_ci (fX10_isThread x3 M7) (fun r10 M11 => if r10 = 0 then (some ((-2 : Int32), M11)) else (ea_ci (fX10_isStep x4 M11) (fun r14 M15 => if r14 = 0 then (some ((-2 : Int32), M15)) else (ea_ci (fX8_latestLook 30 x1 x2 x4 M15) (fun r18 M19 => ea_ci (fX8_isSeen 30 r18 M19) (fun r21 M22 => if r21 = 0 then (some ((-1 : Int32), M22)) else (ea_ck (ea_is (M22.2.2 4 0) 1) (ea_ci (fX10_hoursPast x3 r18 (-(M22.1 (M22.2.2 4 0) 2)) M22) (fun r26 M27 => ea_ck (ea_is (M27.2.2 4 0) 1) (ea_ci (fX10_hoursPast x3 r18 ((M27.1 (M27.2.2 4 0) 2) + (1 : Int32)) M27) (fun r30 M31 => ea_ci (fX10_isWithinSlack x3 r18 r26 M31) (fun r33 M34 => if r33 = 0 then (some ((-1 : Int32), M34)) else (if x5 = 0 then (some (r26, M34)) else (some (r30 - (1 : Int32), M34)))))))))))))))))))
def fX10_lightBack (x1 : Int32) (x2 : Int32) (x3 : Int32) (x4 : Int32) (x5 : Int32) (M : eM) : Option (Int32 × eM) := fX10_lightBack_0 x1 x2 x3 x4 x5 M
section SX10_lightBack
variable {p : Program} {l : Launch} {e : Env} {s : State} {m : MethodId} {args : Array Value} {below : List Frame} {meth : Method} {cd : Code} {E : eE} {ids : List Nat} {res : Int32 × eM}
set_option maxHeartbeats 4000000 in
set_option maxRecDepth 20000 in
theorem wX10_lightBack_0 (C : ea_C p s m args meth cd cX10_lightBack 9 (some .int) RX10) (hX : ea_X ids) : ∀ (x1 : Int32) (x2 : Int32) (x3 : Int32) (x4 : Int32) (x5 : Int32) (M : eM) (H : Heap) (locs : List Loc) (ls : Array Slot), fX10_lightBack_0 x1 x2 x3 x4 x5 M = some res → ea_w E ids M s H locs → lv_has ls 9 [(0, .ref (E.1 0)), (1, .int x1), (2, .int x2), (3, .int x3), (4, .int x4), (5, .int x5)] → W p l e (ea_rm 6 147) s m args below meth cd H locs 0 0 (MQ below (ea_Qi E ids res) args s 0 0 (ea_Ad E ids)) (F0 m 0 ls []) := by
  intro x1 x2 x3 x4 x5 M H locs ls hf  hw hl
  replace hf := (fX10_lightBack_0.eq_1 ..).symm.trans hf
  refine lv_aload_n C.1 C.2.1 dX10_lightBack_0 rfl (lv_at hl 0 rfl) ?_
  refine lv_iload_n C.1 C.2.1 dX10_lightBack_1 rfl (lv_at hl 1 rfl) ?_
  obtain ⟨r2, M3, he1, hf⟩ := ea_ci_s hf
  refine ea_runi2 hw (cl_X10_196 C hw (hX 0 10 rfl) (As := [.int x1]) (rest := []) (mX10_isCell (l := l) (E := E) (ids := ids) hX he1) (by decide) rfl hl.1 rfl (Nat.le_of_ble_eq_true rfl) dX10_lightBack_2 ⟨Nat.le_refl _, Nat.le_refl _⟩) (fun H locs hw => ?_)
  refine lv_if_eq (tgt := 31) C.1 C.2.1 dX10_lightBack_5 (by decide) (fun hc4 => ?_) (fun hc4 => ?_)
  · replace hf := ea_if_t hc4 hf
    refine lv_bipush (v := (-2 : Int32)) C.1 C.2.1 dX10_lightBack_31 (by decide) ?_
    exact ea_iret C hw hf dX10_lightBack_33
  · replace hf := ea_if_f hc4 hf
    refine lv_iload_n C.1 C.2.1 dX10_lightBack_8 rfl (lv_at hl 2 rfl) ?_
    obtain ⟨r6, M7, he5, hf⟩ := ea_ci_s hf
    refine ea_runi2 hw (cl_X10_170 C hw (As := [.int x2]) (rest := []) (mX10_isSide (l := l) (E := E) (ids := ids) hX he5) (by decide) rfl hl.1 rfl (Nat.le_of_ble_eq_true rfl) dX10_lightBack_9 ⟨Nat.le_refl _, Nat.le_refl _⟩) (fun H locs hw => ?_)
    refine lv_if_eq (tgt := 31) C.1 C.2.1 dX10_lightBack_12 (by decide) (fun hc8 => ?_) (fun hc8 => ?_)
    · replace hf := ea_if_t hc8 hf
      refine lv_bipush (v := (-2 : Int32)) C.1 C.2.1 dX10_lightBack_31 (by decide) ?_
      exact ea_iret C hw hf dX10_lightBack_33
    · replace hf := ea_if_f hc8 hf
      refine lv_aload_n C.1 C.2.1 dX10_lightBack_15 rfl (lv_at hl 0 rfl) ?_
      refine lv_iload_n C.1 C.2.1 dX10_lightBack_16 rfl (lv_at hl 3 rfl) ?_
      obtain ⟨r10, M11, he9, hf⟩ := ea_ci_s hf
      refine ea_runi2 hw (cl_X10_183 C hw (hX 0 10 rfl) (As := [.int x3]) (rest := []) (mX10_isThread (l := l) (E := E) (ids := ids) hX he9) (by decide) rfl hl.1 rfl (Nat.le_of_ble_eq_true rfl) dX10_lightBack_17 ⟨Nat.le_refl _, Nat.le_refl _⟩) (fun H locs hw => ?_)
      refine lv_if_eq (tgt := 31) C.1 C.2.1 dX10_lightBack_20 (by decide) (fun hc12 => ?_) (fun hc12 => ?_)
      · replace hf := ea_if_t hc12 hf
        refine lv_bipush (v := (-2 : Int32)) C.1 C.2.1 dX10_lightBack_31 (by decide) ?_
        exact ea_iret C hw hf dX10_lightBack_33
      · replace hf := ea_if_f hc12 hf
        refine lv_iload C.1 C.2.1 dX10_lightBack_23 (lv_at hl 4 rfl) ?_
        obtain ⟨r14, M15, he13, hf⟩ := ea_ci_s hf
        refine ea_runi2 hw (cl_X10_225 C hw (As := [.int x4]) (rest := []) (mX10_isStep (l := l) (E := E) (ids := ids) hX he13) (by decide) rfl hl.1 rfl (Nat.le_of_ble_eq_true rfl) dX10_lightBack_25 ⟨Nat.le_refl _, Nat.le_refl _⟩) (fun H locs hw => ?_)
        refine lv_if_ne (tgt := 34) C.1 C.2.1 dX10_lightBack_28 (by decide) (fun hc16 => ?_) (fun hc16 => ?_)
        · replace hf := ea_if_f hc16 hf
          refine lv_aload_n C.1 C.2.1 dX10_lightBack_34 rfl (lv_at hl 0 rfl) ?_
          refine gf_X10_44 C hw (hX 0 10 rfl) dX10_lightBack_35 ?_
          refine lv_iload_n C.1 C.2.1 dX10_lightBack_38 rfl (lv_at hl 1 rfl) ?_
          refine lv_iload_n C.1 C.2.1 dX10_lightBack_39 rfl (lv_at hl 2 rfl) ?_
          refine lv_iload C.1 C.2.1 dX10_lightBack_40 (lv_at hl 4 rfl) ?_
          obtain ⟨r18, M19, he17, hf⟩ := ea_ci_s hf
          refine ea_runi2 hw (cl_X10_228 C hw (hX 30 8 rfl) (As := [.int x1, .int x2, .int x4]) (rest := []) (mX8_latestLook (l := l) (E := E) (ids := ids) hX (hX 30 8 rfl) he17) (by decide) rfl hl.1 rfl (Nat.le_of_ble_eq_true rfl) dX10_lightBack_42 ⟨Nat.le_refl _, Nat.le_refl _⟩) (fun H locs hw => ?_)
          refine lv_istore (lv' := [(6, .int r18), (0, .ref (E.1 0)), (1, .int x1), (2, .int x2), (3, .int x3), (4, .int x4), (5, .int x5)]) C.1 C.2.1 dX10_lightBack_45 hl (by decide) rfl (fun ls hl => ?_)
          refine lv_aload_n C.1 C.2.1 dX10_lightBack_47 rfl (lv_at hl 1 rfl) ?_
          refine gf_X10_44 C hw (hX 0 10 rfl) dX10_lightBack_48 ?_
          refine lv_iload C.1 C.2.1 dX10_lightBack_51 (lv_at hl 0 rfl) ?_
          obtain ⟨r21, M22, he20, hf⟩ := ea_ci_s hf
          refine ea_runi2 hw (cl_X10_273 C hw (hX 30 8 rfl) (As := [.int r18]) (rest := []) (mX8_isSeen (l := l) (E := E) (ids := ids) hX (hX 30 8 rfl) he20) (by decide) rfl hl.1 rfl (Nat.le_of_ble_eq_true rfl) dX10_lightBack_53 ⟨Nat.le_refl _, Nat.le_refl _⟩) (fun H locs hw => ?_)
          refine lv_if_ne (tgt := 61) C.1 C.2.1 dX10_lightBack_56 (by decide) (fun hc23 => ?_) (fun hc23 => ?_)
          · replace hf := ea_if_f hc23 hf
            refine lv_aload_n C.1 C.2.1 dX10_lightBack_61 rfl (lv_at hl 1 rfl) ?_
            refine lv_iload_n C.1 C.2.1 dX10_lightBack_62 rfl (lv_at hl 4 rfl) ?_
            refine lv_iload C.1 C.2.1 dX10_lightBack_63 (lv_at hl 0 rfl) ?_
            refine lv_aload_n C.1 C.2.1 dX10_lightBack_65 rfl (lv_at hl 1 rfl) ?_
            refine gf_X10_24 C hw (hX 0 10 rfl) dX10_lightBack_66 ?_
            refine gf_X10_110 C hw (hX 4 9 rfl) dX10_lightBack_69 ?_
            obtain ⟨hc24, hf⟩ := ea_ck_s hf
            refine gf_X10_276 C hw (ea_dyn hX hc24) dX10_lightBack_72 ?_
            refine lv_ineg C.1 C.2.1 dX10_lightBack_75 ?_
            obtain ⟨r26, M27, he25, hf⟩ := ea_ci_s hf
            refine ea_runi2 hw (cl_X10_279 C hw (hX 0 10 rfl) (As := [.int x3, .int r18, .int (-(M22.1 (M22.2.2 4 0) 2))]) (rest := []) (mX10_hoursPast (l := l) (E := E) (ids := ids) hX he25) (by decide) rfl hl.1 rfl (Nat.le_of_ble_eq_true rfl) dX10_lightBack_76 ⟨Nat.le_refl _, Nat.le_refl _⟩) (fun H locs hw => ?_)
            refine lv_istore (lv' := [(7, .int r26), (6, .int r18), (0, .ref (E.1 0)), (1, .int x1), (2, .int x2), (3, .int x3), (4, .int x4), (5, .int x5)]) C.1 C.2.1 dX10_lightBack_79 hl (by decide) rfl (fun ls hl => ?_)
            refine lv_aload_n C.1 C.2.1 dX10_lightBack_81 rfl (lv_at hl 2 rfl) ?_
            refine lv_iload_n C.1 C.2.1 dX10_lightBack_82 rfl (lv_at hl 5 rfl) ?_
            refine lv_iload C.1 C.2.1 dX10_lightBack_83 (lv_at hl 1 rfl) ?_
            refine lv_aload_n C.1 C.2.1 dX10_lightBack_85 rfl (lv_at hl 2 rfl) ?_
            refine gf_X10_24 C hw (hX 0 10 rfl) dX10_lightBack_86 ?_
            refine gf_X10_110 C hw (hX 4 9 rfl) dX10_lightBack_89 ?_
            obtain ⟨hc28, hf⟩ := ea_ck_s hf
            refine gf_X10_276 C hw (ea_dyn hX hc28) dX10_lightBack_92 ?_
            refine lv_iconst (v := 1) C.1 C.2.1 dX10_lightBack_95 (by decide) ?_
            refine lv_iadd C.1 C.2.1 dX10_lightBack_96 ?_
            obtain ⟨r30, M31, he29, hf⟩ := ea_ci_s hf
            refine ea_runi2 hw (cl_X10_279 C hw (hX 0 10 rfl) (As := [.int x3, .int r18, .int ((M27.1 (M27.2.2 4 0) 2) + (1 : Int32))]) (rest := []) (mX10_hoursPast (l := l) (E := E) (ids := ids) hX he29) (by decide) rfl hl.1 rfl (Nat.le_of_ble_eq_true rfl) dX10_lightBack_97 ⟨Nat.le_refl _, Nat.le_refl _⟩) (fun H locs hw => ?_)
            refine lv_istore (lv' := [(8, .int r30), (7, .int r26), (6, .int r18), (0, .ref (E.1 0)), (1, .int x1), (2, .int x2), (3, .int x3), (4, .int x4), (5, .int x5)]) C.1 C.2.1 dX10_lightBack_100 hl (by decide) rfl (fun ls hl => ?_)
            refine lv_aload_n C.1 C.2.1 dX10_lightBack_102 rfl (lv_at hl 3 rfl) ?_
            refine lv_iload_n C.1 C.2.1 dX10_lightBack_103 rfl (lv_at hl 6 rfl) ?_
            refine lv_iload C.1 C.2.1 dX10_lightBack_104 (lv_at hl 2 rfl) ?_
            refine lv_iload C.1 C.2.1 dX10_lightBack_106 (lv_at hl 1 rfl) ?_
            obtain ⟨r33, M34, he32, hf⟩ := ea_ci_s hf
            refine ea_runi2 hw (cl_X10_282 C hw (hX 0 10 rfl) (As := [.int x3, .int r18, .int r26]) (rest := []) (mX10_isWithinSlack (l := l) (E := E) (ids := ids) hX he32) (by decide) rfl hl.1 rfl (Nat.le_of_ble_eq_true rfl) dX10_lightBack_108 ⟨Nat.le_refl _, Nat.le_refl _⟩) (fun H locs hw => ?_)
            refine lv_if_ne (tgt := 116) C.1 C.2.1 dX10_lightBack_111 (by decide) (fun hc35 => ?_) (fun hc35 => ?_)
            · replace hf := ea_if_f hc35 hf
              refine lv_iload C.1 C.2.1 dX10_lightBack_116 (lv_at hl 8 rfl) ?_
              refine lv_if_eq (tgt := 128) C.1 C.2.1 dX10_lightBack_118 (by decide) (fun hc36 => ?_) (fun hc36 => ?_)
              · replace hf := ea_if_t hc36 hf
                refine lv_iload C.1 C.2.1 dX10_lightBack_128 (lv_at hl 1 rfl) ?_
                exact ea_iret C hw hf dX10_lightBack_130
              · replace hf := ea_if_f hc36 hf
                refine lv_iload C.1 C.2.1 dX10_lightBack_121 (lv_at hl 0 rfl) ?_
                refine lv_iconst (v := 1) C.1 C.2.1 dX10_lightBack_123 (by decide) ?_
                refine lv_isub C.1 C.2.1 dX10_lightBack_124 ?_
                refine lv_goto (tgt := 130) C.1 C.2.1 dX10_lightBack_125 (by decide) ?_
                exact ea_iret C hw hf dX10_lightBack_130
            · replace hf := ea_if_t hc35 hf
              refine lv_iconst (v := (-1 : Int32)) C.1 C.2.1 dX10_lightBack_114 (by decide) ?_
              exact ea_iret C hw hf dX10_lightBack_115
          · replace hf := ea_if_t hc23 hf
            refine lv_iconst (v := (-1 : Int32)) C.1 C.2.1 dX10_lightBack_59 (by decide) ?_
            exact ea_iret C hw hf dX10_lightBack_60
        · replace hf := ea_if_t hc16 hf
          refine lv_bipush (v := (-2 : Int32)) C.1 C.2.1 dX10_lightBack_31 (by decide) ?_
          exact ea_iret C hw hf dX10_lightBack_33
set_option maxHeartbeats 4000000 in
set_option maxRecDepth 20000 in
theorem mX10_lightBack {l : Launch} {E : eE} {ids : List Nat} (hX : ea_X ids) {x1 : Int32} {x2 : Int32} {x3 : Int32} {x4 : Int32} {x5 : Int32} {M : eM} {res : Int32 × eM} (hf : fX10_lightBack x1 x2 x3 x4 x5 M = some res) : ea_Mi l yX10_lightBack cX10_lightBack 9 (some .int) 6 147 E ids [.ref (E.1 0), .int x1, .int x2, .int x3, .int x4, .int x5] M res := by
  refine ea_goi (by decide) (Nat.le_of_ble_eq_true rfl) wc_X10_lightBack ?_
  intro p e s m below meth cd ls C hw hl
  exact wX10_lightBack_0 C hX _ _ _ _ _ _ _ _ _ hf hw hl
end SX10_lightBack

def fX10_look_0 (x1 : Int32) (x2 : Int32) (x3 : Int32) (x4 : Int32) (x5 : Int32) (x6 : Int32) (M : eM) : Option (Int32 × eM) := ea_ci (fX10_mayTell x1 M) (fun r2 M3 => if r2 = 0 then (some ((-2 : Int32), M3)) else (ea_ci (fX10_isCell x2 M3) (fun r6 M7 => if r6 = 0 then (some ((-2 : Int32), M7)) else (ea_ci (fX10_isSide x3 M7) (fun r10 M11 => if r10 = 0 then (some ((-2 : Int32), M11)) else (ea_ci (fX10_areShades x4 x5 x6 M11) (fun r14 M15 => if r14 = 0 then (some ((-2 : Int32), M15)) else (if (M15.1 30 3) < (90 : Int32) then (ea_cv (fX8_addLook 30 x1 x2 x3 x4 x5 x6 M15) (fun M19 => some (M19.1 30 3, M19))) else (some ((-3 : Int32), M15))))))))))
def fX10_look (x1 : Int32) (x2 : Int32) (x3 : Int32) (x4 : Int32) (x5 : Int32) (x6 : Int32) (M : eM) : Option (Int32 × eM) := fX10_look_0 x1 x2 x3 x4 x5 x6 M
section SX10_look
variable {p : Program} {l : Launch} {e : Env} {s : State} {m : MethodId} {args : Array Value} {below : List Frame} {meth : Method} {cd : Code} {E : eE} {ids : List Nat} {res : Int32 × eM}
set_option maxHeartbeats 4000000 in
set_option maxRecDepth 20000 in
theorem wX10_look_0 (C : ea_C p s m args meth cd cX10_look 7 (some .int) RX10) (hX : ea_X ids) : ∀ (x1 : Int32) (x2 : Int32) (x3 : Int32) (x4 : Int32) (x5 : Int32) (x6 : Int32) (M : eM) (H : Heap) (locs : List Loc) (ls : Array Slot), fX10_look_0 x1 x2 x3 x4 x5 x6 M = some res → ea_w E ids M s H locs → lv_has ls 7 [(0, .ref (E.1 0)), (1, .int x1), (2, .int x2), (3, .int x3), (4, .int x4), (5, .int x5), (6, .int x6)] → W p l e (ea_rm 2 51) s m args below meth cd H locs 0 0 (MQ below (ea_Qi E ids res) args s 0 0 (ea_Ad E ids)) (F0 m 0 ls []) := by
  intro x1 x2 x3 x4 x5 x6 M H locs ls hf  hw hl
  replace hf := (fX10_look_0.eq_1 ..).symm.trans hf
  refine lv_aload_n C.1 C.2.1 dX10_look_0 rfl (lv_at hl 0 rfl) ?_
  refine lv_iload_n C.1 C.2.1 dX10_look_1 rfl (lv_at hl 1 rfl) ?_
  obtain ⟨r2, M3, he1, hf⟩ := ea_ci_s hf
  refine ea_runi2 hw (cl_X10_193 C hw (hX 0 10 rfl) (As := [.int x1]) (rest := []) (mX10_mayTell (l := l) (E := E) (ids := ids) hX he1) (by decide) rfl hl.1 rfl (Nat.le_of_ble_eq_true rfl) dX10_look_2 ⟨Nat.le_refl _, Nat.le_refl _⟩) (fun H locs hw => ?_)
  refine lv_if_eq (tgt := 35) C.1 C.2.1 dX10_look_5 (by decide) (fun hc4 => ?_) (fun hc4 => ?_)
  · replace hf := ea_if_t hc4 hf
    refine lv_bipush (v := (-2 : Int32)) C.1 C.2.1 dX10_look_35 (by decide) ?_
    exact ea_iret C hw hf dX10_look_37
  · replace hf := ea_if_f hc4 hf
    refine lv_aload_n C.1 C.2.1 dX10_look_8 rfl (lv_at hl 0 rfl) ?_
    refine lv_iload_n C.1 C.2.1 dX10_look_9 rfl (lv_at hl 2 rfl) ?_
    obtain ⟨r6, M7, he5, hf⟩ := ea_ci_s hf
    refine ea_runi2 hw (cl_X10_196 C hw (hX 0 10 rfl) (As := [.int x2]) (rest := []) (mX10_isCell (l := l) (E := E) (ids := ids) hX he5) (by decide) rfl hl.1 rfl (Nat.le_of_ble_eq_true rfl) dX10_look_10 ⟨Nat.le_refl _, Nat.le_refl _⟩) (fun H locs hw => ?_)
    refine lv_if_eq (tgt := 35) C.1 C.2.1 dX10_look_13 (by decide) (fun hc8 => ?_) (fun hc8 => ?_)
    · replace hf := ea_if_t hc8 hf
      refine lv_bipush (v := (-2 : Int32)) C.1 C.2.1 dX10_look_35 (by decide) ?_
      exact ea_iret C hw hf dX10_look_37
    · replace hf := ea_if_f hc8 hf
      refine lv_iload_n C.1 C.2.1 dX10_look_16 rfl (lv_at hl 3 rfl) ?_
      obtain ⟨r10, M11, he9, hf⟩ := ea_ci_s hf
      refine ea_runi2 hw (cl_X10_170 C hw (As := [.int x3]) (rest := []) (mX10_isSide (l := l) (E := E) (ids := ids) hX he9) (by decide) rfl hl.1 rfl (Nat.le_of_ble_eq_true rfl) dX10_look_17 ⟨Nat.le_refl _, Nat.le_refl _⟩) (fun H locs hw => ?_)
      refine lv_if_eq (tgt := 35) C.1 C.2.1 dX10_look_20 (by decide) (fun hc12 => ?_) (fun hc12 => ?_)
      · replace hf := ea_if_t hc12 hf
        refine lv_bipush (v := (-2 : Int32)) C.1 C.2.1 dX10_look_35 (by decide) ?_
        exact ea_iret C hw hf dX10_look_37
      · replace hf := ea_if_f hc12 hf
        refine lv_iload C.1 C.2.1 dX10_look_23 (lv_at hl 4 rfl) ?_
        refine lv_iload C.1 C.2.1 dX10_look_25 (lv_at hl 5 rfl) ?_
        refine lv_iload C.1 C.2.1 dX10_look_27 (lv_at hl 6 rfl) ?_
        obtain ⟨r14, M15, he13, hf⟩ := ea_ci_s hf
        refine ea_runi2 hw (cl_X10_199 C hw (As := [.int x4, .int x5, .int x6]) (rest := []) (mX10_areShades (l := l) (E := E) (ids := ids) hX he13) (by decide) rfl hl.1 rfl (Nat.le_of_ble_eq_true rfl) dX10_look_29 ⟨Nat.le_refl _, Nat.le_refl _⟩) (fun H locs hw => ?_)
        refine lv_if_ne (tgt := 38) C.1 C.2.1 dX10_look_32 (by decide) (fun hc16 => ?_) (fun hc16 => ?_)
        · replace hf := ea_if_f hc16 hf
          refine lv_aload_n C.1 C.2.1 dX10_look_38 rfl (lv_at hl 0 rfl) ?_
          refine gf_X10_44 C hw (hX 0 10 rfl) dX10_look_39 ?_
          refine gf_X10_202 C hw (hX 30 8 rfl) dX10_look_42 ?_
          refine lv_bipush (v := 90) C.1 C.2.1 dX10_look_45 (by decide) ?_
          refine lv_icmp_lt (tgt := 53) C.1 C.2.1 dX10_look_47 (by decide) (fun hc17 => ?_) (fun hc17 => ?_)
          · replace hf := ea_if_t hc17 hf
            refine lv_aload_n C.1 C.2.1 dX10_look_53 rfl (lv_at hl 0 rfl) ?_
            refine gf_X10_44 C hw (hX 0 10 rfl) dX10_look_54 ?_
            refine lv_iload_n C.1 C.2.1 dX10_look_57 rfl (lv_at hl 1 rfl) ?_
            refine lv_iload_n C.1 C.2.1 dX10_look_58 rfl (lv_at hl 2 rfl) ?_
            refine lv_iload_n C.1 C.2.1 dX10_look_59 rfl (lv_at hl 3 rfl) ?_
            refine lv_iload C.1 C.2.1 dX10_look_60 (lv_at hl 4 rfl) ?_
            refine lv_iload C.1 C.2.1 dX10_look_62 (lv_at hl 5 rfl) ?_
            refine lv_iload C.1 C.2.1 dX10_look_64 (lv_at hl 6 rfl) ?_
            obtain ⟨M19, he18, hf⟩ := ea_cv_s hf
            refine ea_runv hw (cl_X10_205 C hw (hX 30 8 rfl) (As := [.int x1, .int x2, .int x3, .int x4, .int x5, .int x6]) (rest := []) (mX8_addLook (l := l) (E := E) (ids := ids) hX (hX 30 8 rfl) he18) (by decide) rfl hl.1 rfl (Nat.le_of_ble_eq_true rfl) dX10_look_66 ⟨Nat.le_refl _, Nat.le_refl _⟩) (fun H locs hw => ?_)
            refine lv_aload_n C.1 C.2.1 dX10_look_69 rfl (lv_at hl 0 rfl) ?_
            refine gf_X10_44 C hw (hX 0 10 rfl) dX10_look_70 ?_
            refine gf_X10_202 C hw (hX 30 8 rfl) dX10_look_73 ?_
            exact ea_iret C hw hf dX10_look_76
          · replace hf := ea_if_f hc17 hf
            refine lv_bipush (v := (-3 : Int32)) C.1 C.2.1 dX10_look_50 (by decide) ?_
            exact ea_iret C hw hf dX10_look_52
        · replace hf := ea_if_t hc16 hf
          refine lv_bipush (v := (-2 : Int32)) C.1 C.2.1 dX10_look_35 (by decide) ?_
          exact ea_iret C hw hf dX10_look_37
set_option maxHeartbeats 4000000 in
set_option maxRecDepth 20000 in
theorem mX10_look {l : Launch} {E : eE} {ids : List Nat} (hX : ea_X ids) {x1 : Int32} {x2 : Int32} {x3 : Int32} {x4 : Int32} {x5 : Int32} {x6 : Int32} {M : eM} {res : Int32 × eM} (hf : fX10_look x1 x2 x3 x4 x5 x6 M = some res) : ea_Mi l yX10_look cX10_look 7 (some .int) 2 51 E ids [.ref (E.1 0), .int x1, .int x2, .int x3, .int x4, .int x5, .int x6] M res := by
  refine ea_goi (by decide) (Nat.le_of_ble_eq_true rfl) wc_X10_look ?_
  intro p e s m below meth cd ls C hw hl
  exact wX10_look_0 C hX _ _ _ _ _ _ _ _ _ _ hf hw hl
end SX10_look

def fX10_mayBe_50 (k2 : Int32 → Int32 → Int32 → eM → Option (Int32 × eM)) (x1 : Int32) (x2 : Int32) (x3 : Int32) (M : eM) : Option (Int32 × eM) := k2 x1 x2 (x3 + (1 : Int32)) M
def fX10_mayBe_2 : Nat → Int32 → Int32 → Int32 → eM → Option (Int32 × eM)
  | 0, _, _, _, _ => none
  | n + 1, x1, x2, x3, M => ea_ck (ea_is (M.2.2 4 0) 1) (ea_ci (fX1_cells (M.2.2 4 0) M) (fun r3 M4 => if r3 ≤ x3 then (some ((1 : Int32), M4)) else (ea_ci (fX8_isBlank 30 x3 x2 M4) (fun r7 M8 => if r7 = 0 then (ea_cv (fX3_find 50 x3 x1 x2 M8) (fun M11 => if (M11.1 50 6) = 0 then (some ((0 : Int32), M11)) else (fX10_mayBe_50 (fX10_mayBe_2 n) x1 x2 x3 M11))) else (fX10_mayBe_50 (fX10_mayBe_2 n) x1 x2 x3 M8)))))
def fX10_mayBe_0 (x1 : Int32) (x2 : Int32) (M : eM) : Option (Int32 × eM) := fX10_mayBe_2 ea_N x1 x2 (0 : Int32) M
def fX10_mayBe (x1 : Int32) (x2 : Int32) (M : eM) : Option (Int32 × eM) := fX10_mayBe_0 x1 x2 M
section SX10_mayBe
variable {p : Program} {l : Launch} {e : Env} {s : State} {m : MethodId} {args : Array Value} {below : List Frame} {meth : Method} {cd : Code} {E : eE} {ids : List Nat} {res : Int32 × eM}
set_option maxHeartbeats 4000000 in
set_option maxRecDepth 20000 in
theorem wX10_mayBe_50 (C : ea_C p s m args meth cd cX10_mayBe 4 (some .boolean) RX10) (hX : ea_X ids) {k2 : Int32 → Int32 → Int32 → eM → Option (Int32 × eM)} (hk2 : ∀ (x1 : Int32) (x2 : Int32) (x3 : Int32) (M : eM) (H : Heap) (locs : List Loc) (ls : Array Slot), k2 x1 x2 x3 M = some res → ea_w E ids M s H locs → lv_has ls 4 [(0, .ref (E.1 0)), (1, .int x1), (2, .int x2), (3, .int x3)] → W p l e (ea_rm 4 103) s m args below meth cd H locs 0 0 (MQ below (ea_Qi E ids res) args s 0 0 (ea_Ad E ids)) (F0 m 2 ls [])) : ∀ (x1 : Int32) (x2 : Int32) (x3 : Int32) (M : eM) (H : Heap) (locs : List Loc) (ls : Array Slot), fX10_mayBe_50 k2 x1 x2 x3 M = some res → ea_w E ids M s H locs → lv_has ls 4 [(0, .ref (E.1 0)), (1, .int x1), (2, .int x2), (3, .int x3)] → W p l e (ea_rm 4 103) s m args below meth cd H locs 0 0 (MQ below (ea_Qi E ids res) args s 0 0 (ea_Ad E ids)) (F0 m 50 ls []) := by
  intro x1 x2 x3 M H locs ls hf  hw hl
  replace hf := (fX10_mayBe_50.eq_1 ..).symm.trans hf
  refine lv_iinc (v := x3 + (1 : Int32)) (lv' := [(3, .int (x3 + (1 : Int32))), (0, .ref (E.1 0)), (1, .int x1), (2, .int x2)]) C.1 C.2.1 dX10_mayBe_50 hl (k := 3) rfl rfl (by decide) rfl (fun ls hl => ?_)
  refine lv_goto (tgt := 2) C.1 C.2.1 dX10_mayBe_53 (by decide) ?_
  exact hk2 _ _ _ _ _ _ _ hf hw (lv_sub hl [1, 2, 3, 0] rfl)
set_option maxHeartbeats 4000000 in
set_option maxRecDepth 20000 in
theorem wX10_mayBe_2 (C : ea_C p s m args meth cd cX10_mayBe 4 (some .boolean) RX10) (hX : ea_X ids) : ∀ (n : Nat) (x1 : Int32) (x2 : Int32) (x3 : Int32) (M : eM) (H : Heap) (locs : List Loc) (ls : Array Slot), fX10_mayBe_2 n x1 x2 x3 M = some res → ea_w E ids M s H locs → lv_has ls 4 [(0, .ref (E.1 0)), (1, .int x1), (2, .int x2), (3, .int x3)] → W p l e (ea_rm 4 103) s m args below meth cd H locs 0 0 (MQ below (ea_Qi E ids res) args s 0 0 (ea_Ad E ids)) (F0 m 2 ls []) := by
  intro n
  induction n with
  | zero => intro x1 x2 x3 M H locs ls hf; cases hf
  | succ n ih =>
    intro x1 x2 x3 M H locs ls hf  hw hl
    replace hf := (fX10_mayBe_2.eq_2 ..).symm.trans hf
    refine lv_iload_n C.1 C.2.1 dX10_mayBe_2 rfl (lv_at hl 3 rfl) ?_
    refine lv_aload_n C.1 C.2.1 dX10_mayBe_3 rfl (lv_at hl 0 rfl) ?_
    refine gf_X10_24 C hw (hX 0 10 rfl) dX10_mayBe_4 ?_
    refine gf_X10_110 C hw (hX 4 9 rfl) dX10_mayBe_7 ?_
    obtain ⟨hc1, hf⟩ := ea_ck_s hf
    obtain ⟨r3, M4, he2, hf⟩ := ea_ci_s hf
    refine ea_runi2 hw (cl_X10_296 C hw (ea_dyn hX hc1) (As := []) (rest := [.int x3]) (mX1_cells (l := l) (E := E) (ids := ids) hX (ea_dyn hX hc1) he2) (by decide) rfl hl.1 rfl (Nat.le_of_ble_eq_true rfl) dX10_mayBe_10 ⟨Nat.le_refl _, Nat.le_refl _⟩) (fun H locs hw => ?_)
    refine lv_icmp_ge (tgt := 56) C.1 C.2.1 dX10_mayBe_13 (by decide) (fun hc5 => ?_) (fun hc5 => ?_)
    · replace hf := ea_if_t hc5 hf
      refine lv_iconst (v := 1) C.1 C.2.1 dX10_mayBe_56 (by decide) ?_
      exact ea_zret C hw (by decide) hf dX10_mayBe_57
    · replace hf := ea_if_f hc5 hf
      refine lv_aload_n C.1 C.2.1 dX10_mayBe_16 rfl (lv_at hl 0 rfl) ?_
      refine gf_X10_44 C hw (hX 0 10 rfl) dX10_mayBe_17 ?_
      refine lv_iload_n C.1 C.2.1 dX10_mayBe_20 rfl (lv_at hl 3 rfl) ?_
      refine lv_iload_n C.1 C.2.1 dX10_mayBe_21 rfl (lv_at hl 2 rfl) ?_
      obtain ⟨r7, M8, he6, hf⟩ := ea_ci_s hf
      refine ea_runi2 hw (cl_X10_306 C hw (hX 30 8 rfl) (As := [.int x3, .int x2]) (rest := []) (mX8_isBlank (l := l) (E := E) (ids := ids) hX (hX 30 8 rfl) he6) (by decide) rfl hl.1 rfl (Nat.le_of_ble_eq_true rfl) dX10_mayBe_22 ⟨Nat.le_refl _, Nat.le_refl _⟩) (fun H locs hw => ?_)
      refine lv_if_ne (tgt := 50) C.1 C.2.1 dX10_mayBe_25 (by decide) (fun hc9 => ?_) (fun hc9 => ?_)
      · replace hf := ea_if_f hc9 hf
        exact wX10_mayBe_50 C hX ih _ _ _ _ _ _ _ hf hw (lv_sub hl [0, 1, 2, 3] rfl)
      · replace hf := ea_if_t hc9 hf
        refine lv_aload_n C.1 C.2.1 dX10_mayBe_28 rfl (lv_at hl 0 rfl) ?_
        refine gf_X10_57 C hw (hX 0 10 rfl) dX10_mayBe_29 ?_
        refine lv_iload_n C.1 C.2.1 dX10_mayBe_32 rfl (lv_at hl 3 rfl) ?_
        refine lv_iload_n C.1 C.2.1 dX10_mayBe_33 rfl (lv_at hl 1 rfl) ?_
        refine lv_iload_n C.1 C.2.1 dX10_mayBe_34 rfl (lv_at hl 2 rfl) ?_
        obtain ⟨M11, he10, hf⟩ := ea_cv_s hf
        refine ea_runv hw (cl_X10_241 C hw (hX 50 3 rfl) (As := [.int x3, .int x1, .int x2]) (rest := []) (mX3_find (l := l) (E := E) (ids := ids) hX (hX 50 3 rfl) he10) (by decide) rfl hl.1 rfl (Nat.le_of_ble_eq_true rfl) dX10_mayBe_35 ⟨Nat.le_refl _, Nat.le_refl _⟩) (fun H locs hw => ?_)
        refine lv_aload_n C.1 C.2.1 dX10_mayBe_38 rfl (lv_at hl 0 rfl) ?_
        refine gf_X10_57 C hw (hX 0 10 rfl) dX10_mayBe_39 ?_
        refine gf_X10_245 C hw (hX 50 3 rfl) dX10_mayBe_42 ?_
        refine lv_if_ne (tgt := 50) C.1 C.2.1 dX10_mayBe_45 (by decide) (fun hc12 => ?_) (fun hc12 => ?_)
        · replace hf := ea_if_f hc12 hf
          exact wX10_mayBe_50 C hX ih _ _ _ _ _ _ _ hf hw (lv_sub hl [0, 1, 2, 3] rfl)
        · replace hf := ea_if_t hc12 hf
          refine lv_iconst (v := 0) C.1 C.2.1 dX10_mayBe_48 (by decide) ?_
          exact ea_zret C hw (by decide) hf dX10_mayBe_49
set_option maxHeartbeats 4000000 in
set_option maxRecDepth 20000 in
theorem wX10_mayBe_0 (C : ea_C p s m args meth cd cX10_mayBe 4 (some .boolean) RX10) (hX : ea_X ids) : ∀ (x1 : Int32) (x2 : Int32) (M : eM) (H : Heap) (locs : List Loc) (ls : Array Slot), fX10_mayBe_0 x1 x2 M = some res → ea_w E ids M s H locs → lv_has ls 4 [(0, .ref (E.1 0)), (1, .int x1), (2, .int x2)] → W p l e (ea_rm 4 103) s m args below meth cd H locs 0 0 (MQ below (ea_Qi E ids res) args s 0 0 (ea_Ad E ids)) (F0 m 0 ls []) := by
  intro x1 x2 M H locs ls hf  hw hl
  replace hf := (fX10_mayBe_0.eq_1 ..).symm.trans hf
  refine lv_iconst (v := 0) C.1 C.2.1 dX10_mayBe_0 (by decide) ?_
  refine lv_istore_n (lv' := [(3, .int (0 : Int32)), (0, .ref (E.1 0)), (1, .int x1), (2, .int x2)]) C.1 C.2.1 dX10_mayBe_1 rfl hl (by decide) rfl (fun ls hl => ?_)
  exact wX10_mayBe_2 C hX ea_N _ _ _ _ _ _ _ hf hw (lv_sub hl [1, 2, 3, 0] rfl)
set_option maxHeartbeats 4000000 in
set_option maxRecDepth 20000 in
theorem mX10_mayBe {l : Launch} {E : eE} {ids : List Nat} (hX : ea_X ids) {x1 : Int32} {x2 : Int32} {M : eM} {res : Int32 × eM} (hf : fX10_mayBe x1 x2 M = some res) : ea_Mi l yX10_mayBe cX10_mayBe 4 (some .boolean) 4 103 E ids [.ref (E.1 0), .int x1, .int x2] M res := by
  refine ea_goi (by decide) (Nat.le_of_ble_eq_true rfl) wc_X10_mayBe ?_
  intro p e s m below meth cd ls C hw hl
  exact wX10_mayBe_0 C hX _ _ _ _ _ _ hf hw hl
end SX10_mayBe

def fX10_mended_0 (x1 : Int32) (x2 : Int32) (x3 : Int32) (M : eM) : Option (Int32 × eM) := ea_ci (fX10_mayFit x1 x2 x3 M) (fun r2 M3 => if r2 = 0 then (some ((-2 : Int32), M3)) else (ea_cv (fX3_find 50 x1 x2 x3 M3) (fun M6 => if (M6.1 50 6) = 0 then (some ((-1 : Int32), M6)) else (if (M6.1 50 7) = (M6.1 50 6) then (some ((0 : Int32), M6)) else (if (M6.1 50 7) = 0 then (some ((1 : Int32), M6)) else (some ((2 : Int32), M6)))))))
def fX10_mended (x1 : Int32) (x2 : Int32) (x3 : Int32) (M : eM) : Option (Int32 × eM) := fX10_mended_0 x1 x2 x3 M
section SX10_mended
variable {p : Program} {l : Launch} {e : Env} {s : State} {m : MethodId} {args : Array Value} {below : List Frame} {meth : Method} {cd : Code} {E : eE} {ids : List Nat} {res : Int32 × eM}
set_option maxHeartbeats 4000000 in
set_option maxRecDepth 20000 in
theorem wX10_mended_0 (C : ea_C p s m args meth cd cX10_mended 4 (some .int) RX10) (hX : ea_X ids) : ∀ (x1 : Int32) (x2 : Int32) (x3 : Int32) (M : eM) (H : Heap) (locs : List Loc) (ls : Array Slot), fX10_mended_0 x1 x2 x3 M = some res → ea_w E ids M s H locs → lv_has ls 4 [(0, .ref (E.1 0)), (1, .int x1), (2, .int x2), (3, .int x3)] → W p l e (ea_rm 4 103) s m args below meth cd H locs 0 0 (MQ below (ea_Qi E ids res) args s 0 0 (ea_Ad E ids)) (F0 m 0 ls []) := by
  intro x1 x2 x3 M H locs ls hf  hw hl
  replace hf := (fX10_mended_0.eq_1 ..).symm.trans hf
  refine lv_aload_n C.1 C.2.1 dX10_mended_0 rfl (lv_at hl 0 rfl) ?_
  refine lv_iload_n C.1 C.2.1 dX10_mended_1 rfl (lv_at hl 1 rfl) ?_
  refine lv_iload_n C.1 C.2.1 dX10_mended_2 rfl (lv_at hl 2 rfl) ?_
  refine lv_iload_n C.1 C.2.1 dX10_mended_3 rfl (lv_at hl 3 rfl) ?_
  obtain ⟨r2, M3, he1, hf⟩ := ea_ci_s hf
  refine ea_runi2 hw (cl_X10_238 C hw (hX 0 10 rfl) (As := [.int x1, .int x2, .int x3]) (rest := []) (mX10_mayFit (l := l) (E := E) (ids := ids) hX he1) (by decide) rfl hl.1 rfl (Nat.le_of_ble_eq_true rfl) dX10_mended_4 ⟨Nat.le_refl _, Nat.le_refl _⟩) (fun H locs hw => ?_)
  refine lv_if_ne (tgt := 13) C.1 C.2.1 dX10_mended_7 (by decide) (fun hc4 => ?_) (fun hc4 => ?_)
  · replace hf := ea_if_f hc4 hf
    refine lv_aload_n C.1 C.2.1 dX10_mended_13 rfl (lv_at hl 0 rfl) ?_
    refine gf_X10_57 C hw (hX 0 10 rfl) dX10_mended_14 ?_
    refine lv_iload_n C.1 C.2.1 dX10_mended_17 rfl (lv_at hl 1 rfl) ?_
    refine lv_iload_n C.1 C.2.1 dX10_mended_18 rfl (lv_at hl 2 rfl) ?_
    refine lv_iload_n C.1 C.2.1 dX10_mended_19 rfl (lv_at hl 3 rfl) ?_
    obtain ⟨M6, he5, hf⟩ := ea_cv_s hf
    refine ea_runv hw (cl_X10_241 C hw (hX 50 3 rfl) (As := [.int x1, .int x2, .int x3]) (rest := []) (mX3_find (l := l) (E := E) (ids := ids) hX (hX 50 3 rfl) he5) (by decide) rfl hl.1 rfl (Nat.le_of_ble_eq_true rfl) dX10_mended_20 ⟨Nat.le_refl _, Nat.le_refl _⟩) (fun H locs hw => ?_)
    refine lv_aload_n C.1 C.2.1 dX10_mended_23 rfl (lv_at hl 0 rfl) ?_
    refine gf_X10_57 C hw (hX 0 10 rfl) dX10_mended_24 ?_
    refine gf_X10_245 C hw (hX 50 3 rfl) dX10_mended_27 ?_
    refine lv_if_ne (tgt := 35) C.1 C.2.1 dX10_mended_30 (by decide) (fun hc7 => ?_) (fun hc7 => ?_)
    · replace hf := ea_if_f hc7 hf
      refine lv_aload_n C.1 C.2.1 dX10_mended_35 rfl (lv_at hl 0 rfl) ?_
      refine gf_X10_57 C hw (hX 0 10 rfl) dX10_mended_36 ?_
      refine gf_X10_270 C hw (hX 50 3 rfl) dX10_mended_39 ?_
      refine lv_aload_n C.1 C.2.1 dX10_mended_42 rfl (lv_at hl 0 rfl) ?_
      refine gf_X10_57 C hw (hX 0 10 rfl) dX10_mended_43 ?_
      refine gf_X10_245 C hw (hX 50 3 rfl) dX10_mended_46 ?_
      refine lv_icmp_ne (tgt := 54) C.1 C.2.1 dX10_mended_49 (by decide) (fun hc8 => ?_) (fun hc8 => ?_)
      · replace hf := ea_if_f hc8 hf
        refine lv_aload_n C.1 C.2.1 dX10_mended_54 rfl (lv_at hl 0 rfl) ?_
        refine gf_X10_57 C hw (hX 0 10 rfl) dX10_mended_55 ?_
        refine gf_X10_270 C hw (hX 50 3 rfl) dX10_mended_58 ?_
        refine lv_if_ne (tgt := 68) C.1 C.2.1 dX10_mended_61 (by decide) (fun hc9 => ?_) (fun hc9 => ?_)
        · replace hf := ea_if_f hc9 hf
          refine lv_iconst (v := 2) C.1 C.2.1 dX10_mended_68 (by decide) ?_
          exact ea_iret C hw hf dX10_mended_69
        · replace hf := ea_if_t hc9 hf
          refine lv_iconst (v := 1) C.1 C.2.1 dX10_mended_64 (by decide) ?_
          refine lv_goto (tgt := 69) C.1 C.2.1 dX10_mended_65 (by decide) ?_
          exact ea_iret C hw hf dX10_mended_69
      · replace hf := ea_if_t hc8 hf
        refine lv_iconst (v := 0) C.1 C.2.1 dX10_mended_52 (by decide) ?_
        exact ea_iret C hw hf dX10_mended_53
    · replace hf := ea_if_t hc7 hf
      refine lv_iconst (v := (-1 : Int32)) C.1 C.2.1 dX10_mended_33 (by decide) ?_
      exact ea_iret C hw hf dX10_mended_34
  · replace hf := ea_if_t hc4 hf
    refine lv_bipush (v := (-2 : Int32)) C.1 C.2.1 dX10_mended_10 (by decide) ?_
    exact ea_iret C hw hf dX10_mended_12
set_option maxHeartbeats 4000000 in
set_option maxRecDepth 20000 in
theorem mX10_mended {l : Launch} {E : eE} {ids : List Nat} (hX : ea_X ids) {x1 : Int32} {x2 : Int32} {x3 : Int32} {M : eM} {res : Int32 × eM} (hf : fX10_mended x1 x2 x3 M = some res) : ea_Mi l yX10_mended cX10_mended 4 (some .int) 4 103 E ids [.ref (E.1 0), .int x1, .int x2, .int x3] M res := by
  refine ea_goi (by decide) (Nat.le_of_ble_eq_true rfl) wc_X10_mended ?_
  intro p e s m below meth cd ls C hw hl
  exact wX10_mended_0 C hX _ _ _ _ _ _ _ hf hw hl
end SX10_mended
