def fX10_beside_95 (k29 : Int32 → Int32 → Int32 → Int32 → Int32 → Int32 → eM → Option (Int32 × eM)) (x1 : Int32) (x2 : Int32) (x3 : Int32) (x4 : Int32) (x5 : Int32) (x6 : Int32) (M : eM) : Option (Int32 × eM) := k29 x1 x2 x3 x4 x5 (x6 + (1 : Int32)) M
def fX10_beside_91 (k29 : Int32 → Int32 → Int32 → Int32 → Int32 → Int32 → eM → Option (Int32 × eM)) (x1 : Int32) (x2 : Int32) (x3 : Int32) (x4 : Int32) (x5 : Int32) (x6 : Int32) (t0 : Int32) (t1 : Int32) (M : eM) : Option (Int32 × eM) := ea_ck (ea_ix t1 (ea_len 79)) (fX10_beside_95 k29 x1 x2 x3 x4 (x5 + (1 : Int32)) x6 (ea_pI M 79 (t1.toNatClampNeg) t0))
def fX10_beside_29 (k101 : Int32 → Int32 → eM → Option (Int32 × eM)) : Nat → Int32 → Int32 → Int32 → Int32 → Int32 → Int32 → eM → Option (Int32 × eM)
  | 0, _, _, _, _, _, _, _ => none
  | n + 1, x1, x2, x3, x4, x5, x6, M => if (9 : Int32) ≤ x6 then (k101 x4 x5 M) else (ea_ck (ea_is (M.2.2 4 0) 1) (ea_ci (fX1_cellBeside (M.2.2 4 0) x1 ((x6 - x6 / (3 : Int32) * (3 : Int32)) - (1 : Int32)) ((x6 / (3 : Int32)) - (1 : Int32)) M) (fun r4 M5 => if r4 = (-1 : Int32) then (fX10_beside_95 (fX10_beside_29 k101 n) x1 x2 x3 x4 x5 x6 M5) else (if x4 = (2 : Int32) then (fX10_beside_91 (fX10_beside_29 k101 n) x1 x2 x3 x4 x5 x6 (-1 : Int32) x5 M5) else (ea_ci (fX10_sureThread r4 x2 x3 M5) (fun r9 M10 => fX10_beside_91 (fX10_beside_29 k101 n) x1 x2 x3 x4 x5 x6 r9 x5 M10))))))
def fX10_beside_201 (k119 : Int32 → Int32 → Int32 → Int32 → Int32 → eM → Option (Int32 × eM)) (x4 : Int32) (x5 : Int32) (x6 : Int32) (x7 : Int32) (x8 : Int32) (M : eM) : Option (Int32 × eM) := k119 x4 x5 x6 x7 (x8 + (1 : Int32)) M
def fX10_beside_188 (k119 : Int32 → Int32 → Int32 → Int32 → Int32 → eM → Option (Int32 × eM)) (x4 : Int32) (x5 : Int32) (x8 : Int32) (x9 : Int32) (M : eM) : Option (Int32 × eM) := ea_ck (ea_ix x8 (ea_len 79)) (fX10_beside_201 k119 x4 x5 (M.1 79 x8.toNatClampNeg) x9 x8 M)
def fX10_beside_155 (k119 : Int32 → Int32 → Int32 → Int32 → Int32 → eM → Option (Int32 × eM)) (x4 : Int32) (x5 : Int32) (x6 : Int32) (x7 : Int32) (x8 : Int32) (t0 : Int32) (M : eM) : Option (Int32 × eM) := if x7 < t0 then (fX10_beside_188 k119 x4 x5 x8 t0 M) else (if t0 ≤ 0 then (fX10_beside_201 k119 x4 x5 x6 x7 x8 M) else (if t0 = x7 then (ea_ck (ea_ix x8 (ea_len 79)) (if x6 ≤ (M.1 79 x8.toNatClampNeg) then (fX10_beside_201 k119 x4 x5 x6 x7 x8 M) else (fX10_beside_188 k119 x4 x5 x8 t0 M))) else (fX10_beside_201 k119 x4 x5 x6 x7 x8 M)))
def fX10_beside_119 (k207 : Int32 → Int32 → Int32 → eM → Option (Int32 × eM)) : Nat → Int32 → Int32 → Int32 → Int32 → Int32 → eM → Option (Int32 × eM)
  | 0, _, _, _, _, _, _ => none
  | n + 1, x4, x5, x6, x7, x8, M => if x5 ≤ x8 then (k207 x4 x6 x7 M) else (ea_ck (ea_ix x8 (ea_len 79)) (if (M.1 79 x8.toNatClampNeg) = (-1 : Int32) then (fX10_beside_155 (fX10_beside_119 k207 n) x4 x5 x6 x7 x8 (0 : Int32) M) else (ea_ck (ea_ix x8 (ea_len 79)) (ea_ci (fX10_sureAmong (M.1 79 x8.toNatClampNeg) (0 : Int32) x5 M) (fun r6 M7 => fX10_beside_155 (fX10_beside_119 k207 n) x4 x5 x6 x7 x8 r6 M7)))))
def fX10_beside_207 (x4 : Int32) (x6 : Int32) (x7 : Int32) (M : eM) : Option (Int32 × eM) := if x4 = 0 then (some (x6, M)) else (some (x7, M))
def fX10_beside_101 (x4 : Int32) (x5 : Int32) (M : eM) : Option (Int32 × eM) := if x4 = (2 : Int32) then (some (x5, M)) else (fX10_beside_119 (fX10_beside_207) ea_N x4 x5 (-1 : Int32) (0 : Int32) (0 : Int32) M)
def fX10_beside_0 (x1 : Int32) (x2 : Int32) (x3 : Int32) (x4 : Int32) (M : eM) : Option (Int32 × eM) := ea_ci (fX10_mayFit x1 x2 x3 M) (fun r2 M3 => if r2 = 0 then (some ((-2 : Int32), M3)) else (ea_ci (fX10_isWithin x4 (0 : Int32) (2 : Int32) M3) (fun r6 M7 => if r6 = 0 then (some ((-2 : Int32), M7)) else (fX10_beside_29 (fX10_beside_101) ea_N x1 x2 x3 x4 (0 : Int32) (0 : Int32) M7))))
def fX10_beside (x1 : Int32) (x2 : Int32) (x3 : Int32) (x4 : Int32) (M : eM) : Option (Int32 × eM) := fX10_beside_0 x1 x2 x3 x4 M
section SX10_beside
variable {p : Program} {l : Launch} {e : Env} {s : State} {m : MethodId} {args : Array Value} {below : List Frame} {meth : Method} {cd : Code} {E : eE} {ids : List Nat} {res : Int32 × eM}
set_option maxHeartbeats 4000000 in
set_option maxRecDepth 20000 in
theorem wX10_beside_95 (C : ea_C p s m args meth cd cX10_beside 10 (some .int) RX10) (hX : ea_X ids) {k29 : Int32 → Int32 → Int32 → Int32 → Int32 → Int32 → eM → Option (Int32 × eM)} (hk29 : ∀ (x1 : Int32) (x2 : Int32) (x3 : Int32) (x4 : Int32) (x5 : Int32) (x6 : Int32) (M : eM) (H : Heap) (locs : List Loc) (ls : Array Slot), k29 x1 x2 x3 x4 x5 x6 M = some res → ea_w E ids M s H locs → lv_has ls 10 [(0, .ref (E.1 0)), (1, .int x1), (2, .int x2), (3, .int x3), (4, .int x4), (5, .int x5), (6, .int x6)] → W p l e (ea_rm 5 126) s m args below meth cd H locs 0 0 (MQ below (ea_Qi E ids res) args s 0 0 (ea_Ad E ids)) (F0 m 29 ls [])) : ∀ (x1 : Int32) (x2 : Int32) (x3 : Int32) (x4 : Int32) (x5 : Int32) (x6 : Int32) (M : eM) (H : Heap) (locs : List Loc) (ls : Array Slot), fX10_beside_95 k29 x1 x2 x3 x4 x5 x6 M = some res → ea_w E ids M s H locs → lv_has ls 10 [(0, .ref (E.1 0)), (1, .int x1), (2, .int x2), (3, .int x3), (4, .int x4), (5, .int x5), (6, .int x6)] → W p l e (ea_rm 5 126) s m args below meth cd H locs 0 0 (MQ below (ea_Qi E ids res) args s 0 0 (ea_Ad E ids)) (F0 m 95 ls []) := by
  intro x1 x2 x3 x4 x5 x6 M H locs ls hf  hw hl
  replace hf := (fX10_beside_95.eq_1 ..).symm.trans hf
  refine lv_iinc (v := x6 + (1 : Int32)) (lv' := [(6, .int (x6 + (1 : Int32))), (0, .ref (E.1 0)), (1, .int x1), (2, .int x2), (3, .int x3), (4, .int x4), (5, .int x5)]) C.1 C.2.1 dX10_beside_95 hl (k := 6) rfl rfl (by decide) rfl (fun ls hl => ?_)
  refine lv_goto (tgt := 29) C.1 C.2.1 dX10_beside_98 (by decide) ?_
  exact hk29 _ _ _ _ _ _ _ _ _ _ hf hw (lv_sub hl [1, 2, 3, 4, 5, 6, 0] rfl)
set_option maxHeartbeats 4000000 in
set_option maxRecDepth 20000 in
theorem wX10_beside_91 (C : ea_C p s m args meth cd cX10_beside 10 (some .int) RX10) (hX : ea_X ids) {k29 : Int32 → Int32 → Int32 → Int32 → Int32 → Int32 → eM → Option (Int32 × eM)} (hk29 : ∀ (x1 : Int32) (x2 : Int32) (x3 : Int32) (x4 : Int32) (x5 : Int32) (x6 : Int32) (M : eM) (H : Heap) (locs : List Loc) (ls : Array Slot), k29 x1 x2 x3 x4 x5 x6 M = some res → ea_w E ids M s H locs → lv_has ls 10 [(0, .ref (E.1 0)), (1, .int x1), (2, .int x2), (3, .int x3), (4, .int x4), (5, .int x5), (6, .int x6)] → W p l e (ea_rm 5 126) s m args below meth cd H locs 0 0 (MQ below (ea_Qi E ids res) args s 0 0 (ea_Ad E ids)) (F0 m 29 ls [])) : ∀ (x1 : Int32) (x2 : Int32) (x3 : Int32) (x4 : Int32) (x5 : Int32) (x6 : Int32) (t0 : Int32) (t1 : Int32) (M : eM) (H : Heap) (locs : List Loc) (ls : Array Slot), fX10_beside_91 k29 x1 x2 x3 x4 x5 x6 t0 t1 M = some res → ea_w E ids M s H locs → lv_has ls 10 [(0, .ref (E.1 0)), (1, .int x1), (2, .int x2), (3, .int x3), (4, .int x4), (5, .int x5), (6, .int x6)] → W p l e (ea_rm 5 126) s m args below meth cd H locs 0 0 (MQ below (ea_Qi E ids res) args s 0 0 (ea_Ad E ids)) (F0 m 91 ls [.int t0, .int t1, .ref (E.1 79)]) := by
  intro x1 x2 x3 x4 x5 x6 t0 t1 M H locs ls hf  hw hl
  replace hf := (fX10_beside_91.eq_1 ..).symm.trans hf
  obtain ⟨hc1, hf⟩ := ea_ck_s hf
  refine ea_iast C hw (hX 79 20 rfl) hc1 dX10_beside_91 (fun H locs hw => ?_)
  refine lv_iinc (v := x5 + (1 : Int32)) (lv' := [(5, .int (x5 + (1 : Int32))), (0, .ref (E.1 0)), (1, .int x1), (2, .int x2), (3, .int x3), (4, .int x4), (6, .int x6)]) C.1 C.2.1 dX10_beside_92 hl (k := 5) rfl rfl (by decide) rfl (fun ls hl => ?_)
  exact wX10_beside_95 C hX hk29 _ _ _ _ _ _ _ _ _ _ hf hw (lv_sub hl [1, 2, 3, 4, 5, 0, 6] rfl)
set_option maxHeartbeats 4000000 in
set_option maxRecDepth 20000 in
theorem wX10_beside_29 (C : ea_C p s m args meth cd cX10_beside 10 (some .int) RX10) (hX : ea_X ids) {k101 : Int32 → Int32 → eM → Option (Int32 × eM)} (hk101 : ∀ (x4 : Int32) (x5 : Int32) (M : eM) (H : Heap) (locs : List Loc) (ls : Array Slot), k101 x4 x5 M = some res → ea_w E ids M s H locs → lv_has ls 10 [(0, .ref (E.1 0)), (4, .int x4), (5, .int x5)] → W p l e (ea_rm 5 126) s m args below meth cd H locs 0 0 (MQ below (ea_Qi E ids res) args s 0 0 (ea_Ad E ids)) (F0 m 101 ls [])) : ∀ (n : Nat) (x1 : Int32) (x2 : Int32) (x3 : Int32) (x4 : Int32) (x5 : Int32) (x6 : Int32) (M : eM) (H : Heap) (locs : List Loc) (ls : Array Slot), fX10_beside_29 k101 n x1 x2 x3 x4 x5 x6 M = some res → ea_w E ids M s H locs → lv_has ls 10 [(0, .ref (E.1 0)), (1, .int x1), (2, .int x2), (3, .int x3), (4, .int x4), (5, .int x5), (6, .int x6)] → W p l e (ea_rm 5 126) s m args below meth cd H locs 0 0 (MQ below (ea_Qi E ids res) args s 0 0 (ea_Ad E ids)) (F0 m 29 ls []) := by
  intro n
  induction n with
  | zero => intro x1 x2 x3 x4 x5 x6 M H locs ls hf; cases hf
  | succ n ih =>
    intro x1 x2 x3 x4 x5 x6 M H locs ls hf  hw hl
    replace hf := (fX10_beside_29.eq_2 ..).symm.trans hf
    refine lv_iload C.1 C.2.1 dX10_beside_29 (lv_at hl 6 rfl) ?_
    refine lv_bipush (v := 9) C.1 C.2.1 dX10_beside_31 (by decide) ?_
    refine lv_icmp_ge (tgt := 101) C.1 C.2.1 dX10_beside_33 (by decide) (fun hc1 => ?_) (fun hc1 => ?_)
    · replace hf := ea_if_t hc1 hf
      exact hk101 _ _ _ _ _ _ hf hw (lv_sub hl [0, 4, 5] rfl)
    · replace hf := ea_if_f hc1 hf
      refine lv_aload_n C.1 C.2.1 dX10_beside_36 rfl (lv_at hl 0 rfl) ?_
      refine gf_X10_24 C hw (hX 0 10 rfl) dX10_beside_37 ?_
      refine gf_X10_110 C hw (hX 4 9 rfl) dX10_beside_40 ?_
      obtain ⟨hc2, hf⟩ := ea_ck_s hf
      refine lv_iload_n C.1 C.2.1 dX10_beside_43 rfl (lv_at hl 1 rfl) ?_
      refine lv_iload C.1 C.2.1 dX10_beside_44 (lv_at hl 6 rfl) ?_
      refine lv_iconst (v := 3) C.1 C.2.1 dX10_beside_46 (by decide) ?_
      refine lv_irem C.1 C.2.1 dX10_beside_47 (by decide) ?_
      refine lv_iconst (v := 1) C.1 C.2.1 dX10_beside_48 (by decide) ?_
      refine lv_isub C.1 C.2.1 dX10_beside_49 ?_
      refine lv_iload C.1 C.2.1 dX10_beside_50 (lv_at hl 6 rfl) ?_
      refine lv_iconst (v := 3) C.1 C.2.1 dX10_beside_52 (by decide) ?_
      refine lv_idiv C.1 C.2.1 dX10_beside_53 (by decide) ?_
      refine lv_iconst (v := 1) C.1 C.2.1 dX10_beside_54 (by decide) ?_
      refine lv_isub C.1 C.2.1 dX10_beside_55 ?_
      obtain ⟨r4, M5, he3, hf⟩ := ea_ci_s hf
      refine ea_runi2 hw (cl_X10_319 C hw (ea_dyn hX hc2) (As := [.int x1, .int ((x6 - x6 / (3 : Int32) * (3 : Int32)) - (1 : Int32)), .int ((x6 / (3 : Int32)) - (1 : Int32))]) (rest := []) (mX1_cellBeside (l := l) (E := E) (ids := ids) hX (ea_dyn hX hc2) he3) (by decide) rfl hl.1 rfl (Nat.le_of_ble_eq_true rfl) dX10_beside_56 ⟨Nat.le_refl _, Nat.le_refl _⟩) (fun H locs hw => ?_)
      refine lv_istore (lv' := [(7, .int r4), (0, .ref (E.1 0)), (1, .int x1), (2, .int x2), (3, .int x3), (4, .int x4), (5, .int x5), (6, .int x6)]) C.1 C.2.1 dX10_beside_59 hl (by decide) rfl (fun ls hl => ?_)
      refine lv_iload C.1 C.2.1 dX10_beside_61 (lv_at hl 0 rfl) ?_
      refine lv_iconst (v := (-1 : Int32)) C.1 C.2.1 dX10_beside_63 (by decide) ?_
      refine lv_icmp_eq (tgt := 95) C.1 C.2.1 dX10_beside_64 (by decide) (fun hc6 => ?_) (fun hc6 => ?_)
      · replace hf := ea_if_t hc6 hf
        exact wX10_beside_95 C hX ih _ _ _ _ _ _ _ _ _ _ hf hw (lv_sub hl [1, 2, 3, 4, 5, 6, 7] rfl)
      · replace hf := ea_if_f hc6 hf
        refine lv_aload_n C.1 C.2.1 dX10_beside_67 rfl (lv_at hl 1 rfl) ?_
        refine gf_X10_85 C hw (hX 0 10 rfl) dX10_beside_68 ?_
        refine lv_iload C.1 C.2.1 dX10_beside_71 (lv_at hl 6 rfl) ?_
        refine lv_iload C.1 C.2.1 dX10_beside_73 (lv_at hl 5 rfl) ?_
        refine lv_iconst (v := 2) C.1 C.2.1 dX10_beside_75 (by decide) ?_
        refine lv_icmp_ne (tgt := 83) C.1 C.2.1 dX10_beside_76 (by decide) (fun hc7 => ?_) (fun hc7 => ?_)
        · replace hf := ea_if_f hc7 hf
          refine lv_aload_n C.1 C.2.1 dX10_beside_83 rfl (lv_at hl 1 rfl) ?_
          refine lv_iload C.1 C.2.1 dX10_beside_84 (lv_at hl 0 rfl) ?_
          refine lv_iload_n C.1 C.2.1 dX10_beside_86 rfl (lv_at hl 3 rfl) ?_
          refine lv_iload_n C.1 C.2.1 dX10_beside_87 rfl (lv_at hl 4 rfl) ?_
          obtain ⟨r9, M10, he8, hf⟩ := ea_ci_s hf
          refine ea_runi2 hw (cl_X10_300 C hw (hX 0 10 rfl) (As := [.int r4, .int x2, .int x3]) (rest := [.int x5, .ref (E.1 79)]) (mX10_sureThread (l := l) (E := E) (ids := ids) hX he8) (by decide) rfl hl.1 rfl (Nat.le_of_ble_eq_true rfl) dX10_beside_88 ⟨Nat.le_refl _, Nat.le_refl _⟩) (fun H locs hw => ?_)
          exact wX10_beside_91 C hX ih _ _ _ _ _ _ _ _ _ _ _ _ hf hw (lv_sub hl [1, 2, 3, 4, 5, 6, 7] rfl)
        · replace hf := ea_if_t hc7 hf
          refine lv_iconst (v := (-1 : Int32)) C.1 C.2.1 dX10_beside_79 (by decide) ?_
          refine lv_goto (tgt := 91) C.1 C.2.1 dX10_beside_80 (by decide) ?_
          exact wX10_beside_91 C hX ih _ _ _ _ _ _ _ _ _ _ _ _ hf hw (lv_sub hl [1, 2, 3, 4, 5, 6, 7] rfl)
set_option maxHeartbeats 4000000 in
set_option maxRecDepth 20000 in
theorem wX10_beside_201 (C : ea_C p s m args meth cd cX10_beside 10 (some .int) RX10) (hX : ea_X ids) {k119 : Int32 → Int32 → Int32 → Int32 → Int32 → eM → Option (Int32 × eM)} (hk119 : ∀ (x4 : Int32) (x5 : Int32) (x6 : Int32) (x7 : Int32) (x8 : Int32) (M : eM) (H : Heap) (locs : List Loc) (ls : Array Slot), k119 x4 x5 x6 x7 x8 M = some res → ea_w E ids M s H locs → lv_has ls 10 [(0, .ref (E.1 0)), (4, .int x4), (5, .int x5), (6, .int x6), (7, .int x7), (8, .int x8)] → W p l e (ea_rm 5 126) s m args below meth cd H locs 0 0 (MQ below (ea_Qi E ids res) args s 0 0 (ea_Ad E ids)) (F0 m 119 ls [])) : ∀ (x4 : Int32) (x5 : Int32) (x6 : Int32) (x7 : Int32) (x8 : Int32) (M : eM) (H : Heap) (locs : List Loc) (ls : Array Slot), fX10_beside_201 k119 x4 x5 x6 x7 x8 M = some res → ea_w E ids M s H locs → lv_has ls 10 [(0, .ref (E.1 0)), (4, .int x4), (5, .int x5), (6, .int x6), (7, .int x7), (8, .int x8)] → W p l e (ea_rm 5 126) s m args below meth cd H locs 0 0 (MQ below (ea_Qi E ids res) args s 0 0 (ea_Ad E ids)) (F0 m 201 ls []) := by
  intro x4 x5 x6 x7 x8 M H locs ls hf  hw hl
  replace hf := (fX10_beside_201.eq_1 ..).symm.trans hf
  refine lv_iinc (v := x8 + (1 : Int32)) (lv' := [(8, .int (x8 + (1 : Int32))), (0, .ref (E.1 0)), (4, .int x4), (5, .int x5), (6, .int x6), (7, .int x7)]) C.1 C.2.1 dX10_beside_201 hl (k := 5) rfl rfl (by decide) rfl (fun ls hl => ?_)
  refine lv_goto (tgt := 119) C.1 C.2.1 dX10_beside_204 (by decide) ?_
  exact hk119 _ _ _ _ _ _ _ _ _ hf hw (lv_sub hl [1, 2, 3, 4, 5, 0] rfl)
set_option maxHeartbeats 4000000 in
set_option maxRecDepth 20000 in
theorem wX10_beside_188 (C : ea_C p s m args meth cd cX10_beside 10 (some .int) RX10) (hX : ea_X ids) {k119 : Int32 → Int32 → Int32 → Int32 → Int32 → eM → Option (Int32 × eM)} (hk119 : ∀ (x4 : Int32) (x5 : Int32) (x6 : Int32) (x7 : Int32) (x8 : Int32) (M : eM) (H : Heap) (locs : List Loc) (ls : Array Slot), k119 x4 x5 x6 x7 x8 M = some res → ea_w E ids M s H locs → lv_has ls 10 [(0, .ref (E.1 0)), (4, .int x4), (5, .int x5), (6, .int x6), (7, .int x7), (8, .int x8)] → W p l e (ea_rm 5 126) s m args below meth cd H locs 0 0 (MQ below (ea_Qi E ids res) args s 0 0 (ea_Ad E ids)) (F0 m 119 ls [])) : ∀ (x4 : Int32) (x5 : Int32) (x8 : Int32) (x9 : Int32) (M : eM) (H : Heap) (locs : List Loc) (ls : Array Slot), fX10_beside_188 k119 x4 x5 x8 x9 M = some res → ea_w E ids M s H locs → lv_has ls 10 [(0, .ref (E.1 0)), (4, .int x4), (5, .int x5), (8, .int x8), (9, .int x9)] → W p l e (ea_rm 5 126) s m args below meth cd H locs 0 0 (MQ below (ea_Qi E ids res) args s 0 0 (ea_Ad E ids)) (F0 m 188 ls []) := by
  intro x4 x5 x8 x9 M H locs ls hf  hw hl
  replace hf := (fX10_beside_188.eq_1 ..).symm.trans hf
  refine lv_aload_n C.1 C.2.1 dX10_beside_188 rfl (lv_at hl 0 rfl) ?_
  refine gf_X10_85 C hw (hX 0 10 rfl) dX10_beside_189 ?_
  refine lv_iload C.1 C.2.1 dX10_beside_192 (lv_at hl 3 rfl) ?_
  obtain ⟨hc1, hf⟩ := ea_ck_s hf
  refine ea_iald C hw (hX 79 20 rfl) hc1 dX10_beside_194 ?_
  refine lv_istore (lv' := [(6, .int (M.1 79 x8.toNatClampNeg)), (0, .ref (E.1 0)), (4, .int x4), (5, .int x5), (8, .int x8), (9, .int x9)]) C.1 C.2.1 dX10_beside_195 hl (by decide) rfl (fun ls hl => ?_)
  refine lv_iload C.1 C.2.1 dX10_beside_197 (lv_at hl 5 rfl) ?_
  refine lv_istore (lv' := [(7, .int x9), (6, .int (M.1 79 x8.toNatClampNeg)), (0, .ref (E.1 0)), (4, .int x4), (5, .int x5), (8, .int x8), (9, .int x9)]) C.1 C.2.1 dX10_beside_199 hl (by decide) rfl (fun ls hl => ?_)
  exact wX10_beside_201 C hX hk119 _ _ _ _ _ _ _ _ _ hf hw (lv_sub hl [2, 3, 4, 1, 0, 5] rfl)
set_option maxHeartbeats 4000000 in
set_option maxRecDepth 20000 in
theorem wX10_beside_155 (C : ea_C p s m args meth cd cX10_beside 10 (some .int) RX10) (hX : ea_X ids) {k119 : Int32 → Int32 → Int32 → Int32 → Int32 → eM → Option (Int32 × eM)} (hk119 : ∀ (x4 : Int32) (x5 : Int32) (x6 : Int32) (x7 : Int32) (x8 : Int32) (M : eM) (H : Heap) (locs : List Loc) (ls : Array Slot), k119 x4 x5 x6 x7 x8 M = some res → ea_w E ids M s H locs → lv_has ls 10 [(0, .ref (E.1 0)), (4, .int x4), (5, .int x5), (6, .int x6), (7, .int x7), (8, .int x8)] → W p l e (ea_rm 5 126) s m args below meth cd H locs 0 0 (MQ below (ea_Qi E ids res) args s 0 0 (ea_Ad E ids)) (F0 m 119 ls [])) : ∀ (x4 : Int32) (x5 : Int32) (x6 : Int32) (x7 : Int32) (x8 : Int32) (t0 : Int32) (M : eM) (H : Heap) (locs : List Loc) (ls : Array Slot), fX10_beside_155 k119 x4 x5 x6 x7 x8 t0 M = some res → ea_w E ids M s H locs → lv_has ls 10 [(0, .ref (E.1 0)), (4, .int x4), (5, .int x5), (6, .int x6), (7, .int x7), (8, .int x8)] → W p l e (ea_rm 5 126) s m args below meth cd H locs 0 0 (MQ below (ea_Qi E ids res) args s 0 0 (ea_Ad E ids)) (F0 m 155 ls [.int t0]) := by
  intro x4 x5 x6 x7 x8 t0 M H locs ls hf  hw hl
  replace hf := (fX10_beside_155.eq_1 ..).symm.trans hf
  refine lv_istore (lv' := [(9, .int t0), (0, .ref (E.1 0)), (4, .int x4), (5, .int x5), (6, .int x6), (7, .int x7), (8, .int x8)]) C.1 C.2.1 dX10_beside_155 hl (by decide) rfl (fun ls hl => ?_)
  refine lv_iload C.1 C.2.1 dX10_beside_157 (lv_at hl 0 rfl) ?_
  refine lv_iload C.1 C.2.1 dX10_beside_159 (lv_at hl 5 rfl) ?_
  refine lv_icmp_gt (tgt := 188) C.1 C.2.1 dX10_beside_161 (by decide) (fun hc1 => ?_) (fun hc1 => ?_)
  · replace hf := ea_if_t hc1 hf
    exact wX10_beside_188 C hX hk119 _ _ _ _ _ _ _ _ hf hw (lv_sub hl [1, 2, 3, 6, 0] rfl)
  · replace hf := ea_if_f hc1 hf
    refine lv_iload C.1 C.2.1 dX10_beside_164 (lv_at hl 0 rfl) ?_
    refine lv_if_le (tgt := 201) C.1 C.2.1 dX10_beside_166 (by decide) (fun hc2 => ?_) (fun hc2 => ?_)
    · replace hf := ea_if_t hc2 hf
      exact wX10_beside_201 C hX hk119 _ _ _ _ _ _ _ _ _ hf hw (lv_sub hl [1, 2, 3, 4, 5, 6] rfl)
    · replace hf := ea_if_f hc2 hf
      refine lv_iload C.1 C.2.1 dX10_beside_169 (lv_at hl 0 rfl) ?_
      refine lv_iload C.1 C.2.1 dX10_beside_171 (lv_at hl 5 rfl) ?_
      refine lv_icmp_ne (tgt := 201) C.1 C.2.1 dX10_beside_173 (by decide) (fun hc3 => ?_) (fun hc3 => ?_)
      · replace hf := ea_if_f hc3 hf
        exact wX10_beside_201 C hX hk119 _ _ _ _ _ _ _ _ _ hf hw (lv_sub hl [1, 2, 3, 4, 5, 6] rfl)
      · replace hf := ea_if_t hc3 hf
        refine lv_aload_n C.1 C.2.1 dX10_beside_176 rfl (lv_at hl 1 rfl) ?_
        refine gf_X10_85 C hw (hX 0 10 rfl) dX10_beside_177 ?_
        refine lv_iload C.1 C.2.1 dX10_beside_180 (lv_at hl 6 rfl) ?_
        obtain ⟨hc4, hf⟩ := ea_ck_s hf
        refine ea_iald C hw (hX 79 20 rfl) hc4 dX10_beside_182 ?_
        refine lv_iload C.1 C.2.1 dX10_beside_183 (lv_at hl 4 rfl) ?_
        refine lv_icmp_ge (tgt := 201) C.1 C.2.1 dX10_beside_185 (by decide) (fun hc5 => ?_) (fun hc5 => ?_)
        · replace hf := ea_if_t hc5 hf
          exact wX10_beside_201 C hX hk119 _ _ _ _ _ _ _ _ _ hf hw (lv_sub hl [1, 2, 3, 4, 5, 6] rfl)
        · replace hf := ea_if_f hc5 hf
          exact wX10_beside_188 C hX hk119 _ _ _ _ _ _ _ _ hf hw (lv_sub hl [1, 2, 3, 6, 0] rfl)
set_option maxHeartbeats 4000000 in
set_option maxRecDepth 20000 in
theorem wX10_beside_119 (C : ea_C p s m args meth cd cX10_beside 10 (some .int) RX10) (hX : ea_X ids) {k207 : Int32 → Int32 → Int32 → eM → Option (Int32 × eM)} (hk207 : ∀ (x4 : Int32) (x6 : Int32) (x7 : Int32) (M : eM) (H : Heap) (locs : List Loc) (ls : Array Slot), k207 x4 x6 x7 M = some res → ea_w E ids M s H locs → lv_has ls 10 [(4, .int x4), (6, .int x6), (7, .int x7)] → W p l e (ea_rm 5 126) s m args below meth cd H locs 0 0 (MQ below (ea_Qi E ids res) args s 0 0 (ea_Ad E ids)) (F0 m 207 ls [])) : ∀ (n : Nat) (x4 : Int32) (x5 : Int32) (x6 : Int32) (x7 : Int32) (x8 : Int32) (M : eM) (H : Heap) (locs : List Loc) (ls : Array Slot), fX10_beside_119 k207 n x4 x5 x6 x7 x8 M = some res → ea_w E ids M s H locs → lv_has ls 10 [(0, .ref (E.1 0)), (4, .int x4), (5, .int x5), (6, .int x6), (7, .int x7), (8, .int x8)] → W p l e (ea_rm 5 126) s m args below meth cd H locs 0 0 (MQ below (ea_Qi E ids res) args s 0 0 (ea_Ad E ids)) (F0 m 119 ls []) := by
  intro n
  induction n with
  | zero => intro x4 x5 x6 x7 x8 M H locs ls hf; cases hf
  | succ n ih =>
    intro x4 x5 x6 x7 x8 M H locs ls hf  hw hl
    replace hf := (fX10_beside_119.eq_2 ..).symm.trans hf
    refine lv_iload C.1 C.2.1 dX10_beside_119 (lv_at hl 5 rfl) ?_
    refine lv_iload C.1 C.2.1 dX10_beside_121 (lv_at hl 2 rfl) ?_
    refine lv_icmp_ge (tgt := 207) C.1 C.2.1 dX10_beside_123 (by decide) (fun hc1 => ?_) (fun hc1 => ?_)
    · replace hf := ea_if_t hc1 hf
      exact hk207 _ _ _ _ _ _ _ hf hw (lv_sub hl [1, 3, 4] rfl)
    · replace hf := ea_if_f hc1 hf
      refine lv_aload_n C.1 C.2.1 dX10_beside_126 rfl (lv_at hl 0 rfl) ?_
      refine gf_X10_85 C hw (hX 0 10 rfl) dX10_beside_127 ?_
      refine lv_iload C.1 C.2.1 dX10_beside_130 (lv_at hl 5 rfl) ?_
      obtain ⟨hc2, hf⟩ := ea_ck_s hf
      refine ea_iald C hw (hX 79 20 rfl) hc2 dX10_beside_132 ?_
      refine lv_iconst (v := (-1 : Int32)) C.1 C.2.1 dX10_beside_133 (by decide) ?_
      refine lv_icmp_ne (tgt := 141) C.1 C.2.1 dX10_beside_134 (by decide) (fun hc3 => ?_) (fun hc3 => ?_)
      · replace hf := ea_if_f hc3 hf
        refine lv_aload_n C.1 C.2.1 dX10_beside_141 rfl (lv_at hl 0 rfl) ?_
        refine lv_aload_n C.1 C.2.1 dX10_beside_142 rfl (lv_at hl 0 rfl) ?_
        refine gf_X10_85 C hw (hX 0 10 rfl) dX10_beside_143 ?_
        refine lv_iload C.1 C.2.1 dX10_beside_146 (lv_at hl 5 rfl) ?_
        obtain ⟨hc4, hf⟩ := ea_ck_s hf
        refine ea_iald C hw (hX 79 20 rfl) hc4 dX10_beside_148 ?_
        refine lv_iconst (v := 0) C.1 C.2.1 dX10_beside_149 (by decide) ?_
        refine lv_iload C.1 C.2.1 dX10_beside_150 (lv_at hl 2 rfl) ?_
        obtain ⟨r6, M7, he5, hf⟩ := ea_ci_s hf
        refine ea_runi2 hw (cl_X10_303 C hw (hX 0 10 rfl) (As := [.int (M.1 79 x8.toNatClampNeg), .int (0 : Int32), .int x5]) (rest := []) (mX10_sureAmong (l := l) (E := E) (ids := ids) hX he5) (by decide) rfl hl.1 rfl (Nat.le_of_ble_eq_true rfl) dX10_beside_152 ⟨Nat.le_refl _, Nat.le_refl _⟩) (fun H locs hw => ?_)
        exact wX10_beside_155 C hX ih _ _ _ _ _ _ _ _ _ _ hf hw (lv_sub hl [0, 1, 2, 3, 4, 5] rfl)
      · replace hf := ea_if_t hc3 hf
        refine lv_iconst (v := 0) C.1 C.2.1 dX10_beside_137 (by decide) ?_
        refine lv_goto (tgt := 155) C.1 C.2.1 dX10_beside_138 (by decide) ?_
        exact wX10_beside_155 C hX ih _ _ _ _ _ _ _ _ _ _ hf hw (lv_sub hl [0, 1, 2, 3, 4, 5] rfl)
set_option maxHeartbeats 4000000 in
set_option maxRecDepth 20000 in
theorem wX10_beside_207 (C : ea_C p s m args meth cd cX10_beside 10 (some .int) RX10) (hX : ea_X ids) : ∀ (x4 : Int32) (x6 : Int32) (x7 : Int32) (M : eM) (H : Heap) (locs : List Loc) (ls : Array Slot), fX10_beside_207 x4 x6 x7 M = some res → ea_w E ids M s H locs → lv_has ls 10 [(4, .int x4), (6, .int x6), (7, .int x7)] → W p l e (ea_rm 5 126) s m args below meth cd H locs 0 0 (MQ below (ea_Qi E ids res) args s 0 0 (ea_Ad E ids)) (F0 m 207 ls []) := by
  intro x4 x6 x7 M H locs ls hf  hw hl
  replace hf := (fX10_beside_207.eq_1 ..).symm.trans hf
  refine lv_iload C.1 C.2.1 dX10_beside_207 (lv_at hl 0 rfl) ?_
  refine lv_if_ne (tgt := 217) C.1 C.2.1 dX10_beside_209 (by decide) (fun hc1 => ?_) (fun hc1 => ?_)
  · replace hf := ea_if_f hc1 hf
    refine lv_iload C.1 C.2.1 dX10_beside_217 (lv_at hl 2 rfl) ?_
    exact ea_iret C hw hf dX10_beside_219
  · replace hf := ea_if_t hc1 hf
    refine lv_iload C.1 C.2.1 dX10_beside_212 (lv_at hl 1 rfl) ?_
    refine lv_goto (tgt := 219) C.1 C.2.1 dX10_beside_214 (by decide) ?_
    exact ea_iret C hw hf dX10_beside_219
set_option maxHeartbeats 4000000 in
set_option maxRecDepth 20000 in
theorem wX10_beside_101 (C : ea_C p s m args meth cd cX10_beside 10 (some .int) RX10) (hX : ea_X ids) : ∀ (x4 : Int32) (x5 : Int32) (M : eM) (H : Heap) (locs : List Loc) (ls : Array Slot), fX10_beside_101 x4 x5 M = some res → ea_w E ids M s H locs → lv_has ls 10 [(0, .ref (E.1 0)), (4, .int x4), (5, .int x5)] → W p l e (ea_rm 5 126) s m args below meth cd H locs 0 0 (MQ below (ea_Qi E ids res) args s 0 0 (ea_Ad E ids)) (F0 m 101 ls []) := by
  intro x4 x5 M H locs ls hf  hw hl
  replace hf := (fX10_beside_101.eq_1 ..).symm.trans hf
  refine lv_iload C.1 C.2.1 dX10_beside_101 (lv_at hl 1 rfl) ?_
  refine lv_iconst (v := 2) C.1 C.2.1 dX10_beside_103 (by decide) ?_
  refine lv_icmp_ne (tgt := 110) C.1 C.2.1 dX10_beside_104 (by decide) (fun hc1 => ?_) (fun hc1 => ?_)
  · replace hf := ea_if_f hc1 hf
    refine lv_iconst (v := (-1 : Int32)) C.1 C.2.1 dX10_beside_110 (by decide) ?_
    refine lv_istore (lv' := [(6, .int (-1 : Int32)), (0, .ref (E.1 0)), (4, .int x4), (5, .int x5)]) C.1 C.2.1 dX10_beside_111 hl (by decide) rfl (fun ls hl => ?_)
    refine lv_iconst (v := 0) C.1 C.2.1 dX10_beside_113 (by decide) ?_
    refine lv_istore (lv' := [(7, .int (0 : Int32)), (6, .int (-1 : Int32)), (0, .ref (E.1 0)), (4, .int x4), (5, .int x5)]) C.1 C.2.1 dX10_beside_114 hl (by decide) rfl (fun ls hl => ?_)
    refine lv_iconst (v := 0) C.1 C.2.1 dX10_beside_116 (by decide) ?_
    refine lv_istore (lv' := [(8, .int (0 : Int32)), (7, .int (0 : Int32)), (6, .int (-1 : Int32)), (0, .ref (E.1 0)), (4, .int x4), (5, .int x5)]) C.1 C.2.1 dX10_beside_117 hl (by decide) rfl (fun ls hl => ?_)
    exact wX10_beside_119 C hX (wX10_beside_207 C hX) ea_N _ _ _ _ _ _ _ _ _ hf hw (lv_sub hl [3, 4, 5, 2, 1, 0] rfl)
  · replace hf := ea_if_t hc1 hf
    refine lv_iload C.1 C.2.1 dX10_beside_107 (lv_at hl 2 rfl) ?_
    exact ea_iret C hw hf dX10_beside_109
set_option maxHeartbeats 4000000 in
set_option maxRecDepth 20000 in
theorem wX10_beside_0 (C : ea_C p s m args meth cd cX10_beside 10 (some .int) RX10) (hX : ea_X ids) : ∀ (x1 : Int32) (x2 : Int32) (x3 : Int32) (x4 : Int32) (M : eM) (H : Heap) (locs : List Loc) (ls : Array Slot), fX10_beside_0 x1 x2 x3 x4 M = some res → ea_w E ids M s H locs → lv_has ls 10 [(0, .ref (E.1 0)), (1, .int x1), (2, .int x2), (3, .int x3), (4, .int x4)] → W p l e (ea_rm 5 126) s m args below meth cd H locs 0 0 (MQ below (ea_Qi E ids res) args s 0 0 (ea_Ad E ids)) (F0 m 0 ls []) := by
  intro x1 x2 x3 x4 M H locs ls hf  hw hl
  replace hf := (fX10_beside_0.eq_1 ..).symm.trans hf
  refine lv_aload_n C.1 C.2.1 dX10_beside_0 rfl (lv_at hl 0 rfl) ?_
  refine lv_iload_n C.1 C.2.1 dX10_beside_1 rfl (lv_at hl 1 rfl) ?_
  refine lv_iload_n C.1 C.2.1 dX10_beside_2 rfl (lv_at hl 2 rfl) ?_
  refine lv_iload_n C.1 C.2.1 dX10_beside_3 rfl (lv_at hl 3 rfl) ?_
  obtain ⟨r2, M3, he1, hf⟩ := ea_ci_s hf
  refine ea_runi2 hw (cl_X10_238 C hw (hX 0 10 rfl) (As := [.int x1, .int x2, .int x3]) (rest := []) (mX10_mayFit (l := l) (E := E) (ids := ids) hX he1) (by decide) rfl hl.1 rfl (Nat.le_of_ble_eq_true rfl) dX10_beside_4 ⟨Nat.le_refl _, Nat.le_refl _⟩) (fun H locs hw => ?_)
  refine lv_if_eq (tgt := 20) C.1 C.2.1 dX10_beside_7 (by decide) (fun hc4 => ?_) (fun hc4 => ?_)
  · replace hf := ea_if_t hc4 hf
    refine lv_bipush (v := (-2 : Int32)) C.1 C.2.1 dX10_beside_20 (by decide) ?_
    exact ea_iret C hw hf dX10_beside_22
  · replace hf := ea_if_f hc4 hf
    refine lv_iload C.1 C.2.1 dX10_beside_10 (lv_at hl 4 rfl) ?_
    refine lv_iconst (v := 0) C.1 C.2.1 dX10_beside_12 (by decide) ?_
    refine lv_iconst (v := 2) C.1 C.2.1 dX10_beside_13 (by decide) ?_
    obtain ⟨r6, M7, he5, hf⟩ := ea_ci_s hf
    refine ea_runi2 hw (cl_X10_133 C hw (As := [.int x4, .int (0 : Int32), .int (2 : Int32)]) (rest := []) (mX10_isWithin (l := l) (E := E) (ids := ids) hX he5) (by decide) rfl hl.1 rfl (Nat.le_of_ble_eq_true rfl) dX10_beside_14 ⟨Nat.le_refl _, Nat.le_refl _⟩) (fun H locs hw => ?_)
    refine lv_if_ne (tgt := 23) C.1 C.2.1 dX10_beside_17 (by decide) (fun hc8 => ?_) (fun hc8 => ?_)
    · replace hf := ea_if_f hc8 hf
      refine lv_iconst (v := 0) C.1 C.2.1 dX10_beside_23 (by decide) ?_
      refine lv_istore (lv' := [(5, .int (0 : Int32)), (0, .ref (E.1 0)), (1, .int x1), (2, .int x2), (3, .int x3), (4, .int x4)]) C.1 C.2.1 dX10_beside_24 hl (by decide) rfl (fun ls hl => ?_)
      refine lv_iconst (v := 0) C.1 C.2.1 dX10_beside_26 (by decide) ?_
      refine lv_istore (lv' := [(6, .int (0 : Int32)), (5, .int (0 : Int32)), (0, .ref (E.1 0)), (1, .int x1), (2, .int x2), (3, .int x3), (4, .int x4)]) C.1 C.2.1 dX10_beside_27 hl (by decide) rfl (fun ls hl => ?_)
      exact wX10_beside_29 C hX (wX10_beside_101 C hX) ea_N _ _ _ _ _ _ _ _ _ _ hf hw (lv_sub hl [2, 3, 4, 5, 6, 1, 0] rfl)
    · replace hf := ea_if_t hc8 hf
      refine lv_bipush (v := (-2 : Int32)) C.1 C.2.1 dX10_beside_20 (by decide) ?_
      exact ea_iret C hw hf dX10_beside_22
set_option maxHeartbeats 4000000 in
set_option maxRecDepth 20000 in
theorem mX10_beside {l : Launch} {E : eE} {ids : List Nat} (hX : ea_X ids) {x1 : Int32} {x2 : Int32} {x3 : Int32} {x4 : Int32} {M : eM} {res : Int32 × eM} (hf : fX10_beside x1 x2 x3 x4 M = some res) : ea_Mi l yX10_beside cX10_beside 10 (some .int) 5 126 E ids [.ref (E.1 0), .int x1, .int x2, .int x3, .int x4] M res := by
  refine ea_goi (by decide) (Nat.le_of_ble_eq_true rfl) wc_X10_beside ?_
  intro p e s m below meth cd ls C hw hl
  exact wX10_beside_0 C hX _ _ _ _ _ _ _ _ hf hw hl
end SX10_beside

def fX10_mayThrow_0 (x1 : Int32) (x2 : Int32) (x3 : Int32) (M : eM) : Option (Int32 × eM) := ea_ck (ea_is (M.2.2 4 0) 1) (ea_ci (fX10_isWithin x1 (0 : Int32) ((M.1 (M.2.2 4 0) 15) - (1 : Int32)) M) (fun r3 M4 => if r3 = 0 then (some ((0 : Int32), M4)) else (ea_ci (fX10_isStory x2 M4) (fun r7 M8 => if r7 = 0 then (some ((0 : Int32), M8)) else (ea_ci (fX10_isWithin x3 (0 : Int32) (99 : Int32) M8) (fun r11 M12 => if r11 = 0 then (some ((0 : Int32), M12)) else (some ((1 : Int32), M12))))))))
def fX10_mayThrow (x1 : Int32) (x2 : Int32) (x3 : Int32) (M : eM) : Option (Int32 × eM) := fX10_mayThrow_0 x1 x2 x3 M
section SX10_mayThrow
variable {p : Program} {l : Launch} {e : Env} {s : State} {m : MethodId} {args : Array Value} {below : List Frame} {meth : Method} {cd : Code} {E : eE} {ids : List Nat} {res : Int32 × eM}
set_option maxHeartbeats 4000000 in
set_option maxRecDepth 20000 in
theorem wX10_mayThrow_0 (C : ea_C p s m args meth cd cX10_mayThrow 4 (some .boolean) RX10) (hX : ea_X ids) : ∀ (x1 : Int32) (x2 : Int32) (x3 : Int32) (M : eM) (H : Heap) (locs : List Loc) (ls : Array Slot), fX10_mayThrow_0 x1 x2 x3 M = some res → ea_w E ids M s H locs → lv_has ls 4 [(0, .ref (E.1 0)), (1, .int x1), (2, .int x2), (3, .int x3)] → W p l e (ea_rm 2 43) s m args below meth cd H locs 0 0 (MQ below (ea_Qi E ids res) args s 0 0 (ea_Ad E ids)) (F0 m 0 ls []) := by
  intro x1 x2 x3 M H locs ls hf  hw hl
  replace hf := (fX10_mayThrow_0.eq_1 ..).symm.trans hf
  refine lv_iload_n C.1 C.2.1 dX10_mayThrow_0 rfl (lv_at hl 1 rfl) ?_
  refine lv_iconst (v := 0) C.1 C.2.1 dX10_mayThrow_1 (by decide) ?_
  refine lv_aload_n C.1 C.2.1 dX10_mayThrow_2 rfl (lv_at hl 0 rfl) ?_
  refine gf_X10_24 C hw (hX 0 10 rfl) dX10_mayThrow_3 ?_
  refine gf_X10_110 C hw (hX 4 9 rfl) dX10_mayThrow_6 ?_
  obtain ⟨hc1, hf⟩ := ea_ck_s hf
  refine gf_X10_357 C hw (ea_dyn hX hc1) dX10_mayThrow_9 ?_
  refine lv_iconst (v := 1) C.1 C.2.1 dX10_mayThrow_12 (by decide) ?_
  refine lv_isub C.1 C.2.1 dX10_mayThrow_13 ?_
  obtain ⟨r3, M4, he2, hf⟩ := ea_ci_s hf
  refine ea_runi2 hw (cl_X10_133 C hw (As := [.int x1, .int (0 : Int32), .int ((M.1 (M.2.2 4 0) 15) - (1 : Int32))]) (rest := []) (mX10_isWithin (l := l) (E := E) (ids := ids) hX he2) (by decide) rfl hl.1 rfl (Nat.le_of_ble_eq_true rfl) dX10_mayThrow_14 ⟨Nat.le_refl _, Nat.le_refl _⟩) (fun H locs hw => ?_)
  refine lv_if_eq (tgt := 42) C.1 C.2.1 dX10_mayThrow_17 (by decide) (fun hc5 => ?_) (fun hc5 => ?_)
  · replace hf := ea_if_t hc5 hf
    refine lv_iconst (v := 0) C.1 C.2.1 dX10_mayThrow_42 (by decide) ?_
    exact ea_zret C hw (by decide) hf dX10_mayThrow_43
  · replace hf := ea_if_f hc5 hf
    refine lv_aload_n C.1 C.2.1 dX10_mayThrow_20 rfl (lv_at hl 0 rfl) ?_
    refine lv_iload_n C.1 C.2.1 dX10_mayThrow_21 rfl (lv_at hl 2 rfl) ?_
    obtain ⟨r7, M8, he6, hf⟩ := ea_ci_s hf
    refine ea_runi2 hw (cl_X10_163 C hw (hX 0 10 rfl) (As := [.int x2]) (rest := []) (mX10_isStory (l := l) (E := E) (ids := ids) hX he6) (by decide) rfl hl.1 rfl (Nat.le_of_ble_eq_true rfl) dX10_mayThrow_22 ⟨Nat.le_refl _, Nat.le_refl _⟩) (fun H locs hw => ?_)
    refine lv_if_eq (tgt := 42) C.1 C.2.1 dX10_mayThrow_25 (by decide) (fun hc9 => ?_) (fun hc9 => ?_)
    · replace hf := ea_if_t hc9 hf
      refine lv_iconst (v := 0) C.1 C.2.1 dX10_mayThrow_42 (by decide) ?_
      exact ea_zret C hw (by decide) hf dX10_mayThrow_43
    · replace hf := ea_if_f hc9 hf
      refine lv_iload_n C.1 C.2.1 dX10_mayThrow_28 rfl (lv_at hl 3 rfl) ?_
      refine lv_iconst (v := 0) C.1 C.2.1 dX10_mayThrow_29 (by decide) ?_
      refine lv_bipush (v := 99) C.1 C.2.1 dX10_mayThrow_30 (by decide) ?_
      obtain ⟨r11, M12, he10, hf⟩ := ea_ci_s hf
      refine ea_runi2 hw (cl_X10_133 C hw (As := [.int x3, .int (0 : Int32), .int (99 : Int32)]) (rest := []) (mX10_isWithin (l := l) (E := E) (ids := ids) hX he10) (by decide) rfl hl.1 rfl (Nat.le_of_ble_eq_true rfl) dX10_mayThrow_32 ⟨Nat.le_refl _, Nat.le_refl _⟩) (fun H locs hw => ?_)
      refine lv_if_eq (tgt := 42) C.1 C.2.1 dX10_mayThrow_35 (by decide) (fun hc13 => ?_) (fun hc13 => ?_)
      · replace hf := ea_if_t hc13 hf
        refine lv_iconst (v := 0) C.1 C.2.1 dX10_mayThrow_42 (by decide) ?_
        exact ea_zret C hw (by decide) hf dX10_mayThrow_43
      · replace hf := ea_if_f hc13 hf
        refine lv_iconst (v := 1) C.1 C.2.1 dX10_mayThrow_38 (by decide) ?_
        refine lv_goto (tgt := 43) C.1 C.2.1 dX10_mayThrow_39 (by decide) ?_
        exact ea_zret C hw (by decide) hf dX10_mayThrow_43
set_option maxHeartbeats 4000000 in
set_option maxRecDepth 20000 in
theorem mX10_mayThrow {l : Launch} {E : eE} {ids : List Nat} (hX : ea_X ids) {x1 : Int32} {x2 : Int32} {x3 : Int32} {M : eM} {res : Int32 × eM} (hf : fX10_mayThrow x1 x2 x3 M = some res) : ea_Mi l yX10_mayThrow cX10_mayThrow 4 (some .boolean) 2 43 E ids [.ref (E.1 0), .int x1, .int x2, .int x3] M res := by
  refine ea_goi (by decide) (Nat.le_of_ble_eq_true rfl) wc_X10_mayThrow ?_
  intro p e s m below meth cd ls C hw hl
  exact wX10_mayThrow_0 C hX _ _ _ _ _ _ _ hf hw hl
end SX10_mayThrow

def fX3_greyShade_47 (k16 : Int32 → Int32 → Int32 → Int32 → eM → Option (Int32 × eM)) (a0 : Nat) (x1 : Int32) (x2 : Int32) (x4 : Int32) (t0 : Int32) (t1 : Int32) (M : eM) : Option (Int32 × eM) := k16 x1 x2 (t1 &&& t0) (x4 + (1 : Int32)) M
def fX3_greyShade_16 (k55 : Int32 → Int32 → eM → Option (Int32 × eM)) (a0 : Nat) : Nat → Int32 → Int32 → Int32 → Int32 → eM → Option (Int32 × eM)
  | 0, _, _, _, _, _ => none
  | n + 1, x1, x2, x3, x4, M => if (3 : Int32) ≤ x4 then (k55 x2 x3 M) else (ea_ck (ea_ix x4 (ea_len (a0 + 5))) (ea_ck (ea_ix x4 (ea_len (a0 + 4))) (if x1 < ((M.1 (a0 + 5) x4.toNatClampNeg) - (M.1 (a0 + 4) x4.toNatClampNeg)) then (fX3_greyShade_47 (fX3_greyShade_16 k55 a0 n) a0 x1 x2 x4 (0 : Int32) x3 M) else (fX3_greyShade_47 (fX3_greyShade_16 k55 a0 n) a0 x1 x2 x4 (1 : Int32) x3 M))))
def fX3_greyShade_55 (a0 : Nat) (x2 : Int32) (x3 : Int32) (M : eM) : Option (Int32 × eM) := if x3 = 0 then (some ((50 : Int32), M)) else (ea_ck (ea_ix x2 (ea_len (a0 + 4))) (ea_ck (ea_ix x2 (ea_len (a0 + 5))) (some (((M.1 (a0 + 4) x2.toNatClampNeg) + (M.1 (a0 + 5) x2.toNatClampNeg)) / (2 : Int32), M))))
def fX3_greyShade_12 (a0 : Nat) (x1 : Int32) (x2 : Int32) (t0 : Int32) (M : eM) : Option (Int32 × eM) := fX3_greyShade_16 (fX3_greyShade_55 a0) a0 ea_N x1 x2 t0 (0 : Int32) M
def fX3_greyShade_0 (a0 : Nat) (x1 : Int32) (x2 : Int32) (M : eM) : Option (Int32 × eM) := if (M.1 a0 6) ≤ 0 then (fX3_greyShade_12 a0 x1 x2 (0 : Int32) M) else (fX3_greyShade_12 a0 x1 x2 (1 : Int32) M)
def fX3_greyShade (a0 : Nat) (x1 : Int32) (x2 : Int32) (M : eM) : Option (Int32 × eM) := fX3_greyShade_0 a0 x1 x2 M
section SX3_greyShade
variable {p : Program} {l : Launch} {e : Env} {s : State} {m : MethodId} {args : Array Value} {below : List Frame} {meth : Method} {cd : Code} {E : eE} {ids : List Nat} {res : Int32 × eM} {a0 : Nat}
set_option maxHeartbeats 4000000 in
set_option maxRecDepth 20000 in
theorem wX3_greyShade_47 (C : ea_C p s m args meth cd cX3_greyShade 5 (some .int) RX3) (hX : ea_X ids) (ho0 : ea_ok ids a0 3) {k16 : Int32 → Int32 → Int32 → Int32 → eM → Option (Int32 × eM)} (hk16 : ∀ (x1 : Int32) (x2 : Int32) (x3 : Int32) (x4 : Int32) (M : eM) (H : Heap) (locs : List Loc) (ls : Array Slot), k16 x1 x2 x3 x4 M = some res → ea_w E ids M s H locs → lv_has ls 5 [(0, .ref (E.1 a0)), (1, .int x1), (2, .int x2), (3, .int x3), (4, .int x4)] → W p l e (ea_rm 0 0) s m args below meth cd H locs 0 0 (MQ below (ea_Qi E ids res) args s 0 0 (ea_Ad E ids)) (F0 m 16 ls [])) : ∀ (x1 : Int32) (x2 : Int32) (x4 : Int32) (t0 : Int32) (t1 : Int32) (M : eM) (H : Heap) (locs : List Loc) (ls : Array Slot), fX3_greyShade_47 k16 a0 x1 x2 x4 t0 t1 M = some res → ea_w E ids M s H locs → lv_has ls 5 [(0, .ref (E.1 a0)), (1, .int x1), (2, .int x2), (4, .int x4)] → W p l e (ea_rm 0 0) s m args below meth cd H locs 0 0 (MQ below (ea_Qi E ids res) args s 0 0 (ea_Ad E ids)) (F0 m 47 ls [.int t0, .int t1]) := by
  intro x1 x2 x4 t0 t1 M H locs ls hf  hw hl
  replace hf := (fX3_greyShade_47.eq_1 ..).symm.trans hf
  refine lv_iand C.1 C.2.1 dX3_greyShade_47 ?_
  refine lv_istore_n (lv' := [(3, .int (t1 &&& t0)), (0, .ref (E.1 a0)), (1, .int x1), (2, .int x2), (4, .int x4)]) C.1 C.2.1 dX3_greyShade_48 rfl hl (by decide) rfl (fun ls hl => ?_)
  refine lv_iinc (v := x4 + (1 : Int32)) (lv' := [(4, .int (x4 + (1 : Int32))), (3, .int (t1 &&& t0)), (0, .ref (E.1 a0)), (1, .int x1), (2, .int x2)]) C.1 C.2.1 dX3_greyShade_49 hl (k := 4) rfl rfl (by decide) rfl (fun ls hl => ?_)
  refine lv_goto (tgt := 16) C.1 C.2.1 dX3_greyShade_52 (by decide) ?_
  exact hk16 _ _ _ _ _ _ _ _ hf hw (lv_sub hl [2, 3, 4, 1, 0] rfl)
set_option maxHeartbeats 4000000 in
set_option maxRecDepth 20000 in
theorem wX3_greyShade_16 (C : ea_C p s m args meth cd cX3_greyShade 5 (some .int) RX3) (hX : ea_X ids) (ho0 : ea_ok ids a0 3) {k55 : Int32 → Int32 → eM → Option (Int32 × eM)} (hk55 : ∀ (x2 : Int32) (x3 : Int32) (M : eM) (H : Heap) (locs : List Loc) (ls : Array Slot), k55 x2 x3 M = some res → ea_w E ids M s H locs → lv_has ls 5 [(0, .ref (E.1 a0)), (2, .int x2), (3, .int x3)] → W p l e (ea_rm 0 0) s m args below meth cd H locs 0 0 (MQ below (ea_Qi E ids res) args s 0 0 (ea_Ad E ids)) (F0 m 55 ls [])) : ∀ (n : Nat) (x1 : Int32) (x2 : Int32) (x3 : Int32) (x4 : Int32) (M : eM) (H : Heap) (locs : List Loc) (ls : Array Slot), fX3_greyShade_16 k55 a0 n x1 x2 x3 x4 M = some res → ea_w E ids M s H locs → lv_has ls 5 [(0, .ref (E.1 a0)), (1, .int x1), (2, .int x2), (3, .int x3), (4, .int x4)] → W p l e (ea_rm 0 0) s m args below meth cd H locs 0 0 (MQ below (ea_Qi E ids res) args s 0 0 (ea_Ad E ids)) (F0 m 16 ls []) := by
  intro n
  induction n with
  | zero => intro x1 x2 x3 x4 M H locs ls hf; cases hf
  | succ n ih =>
    intro x1 x2 x3 x4 M H locs ls hf  hw hl
    replace hf := (fX3_greyShade_16.eq_2 ..).symm.trans hf
    refine lv_iload C.1 C.2.1 dX3_greyShade_16 (lv_at hl 4 rfl) ?_
    refine lv_iconst (v := 3) C.1 C.2.1 dX3_greyShade_18 (by decide) ?_
    refine lv_icmp_ge (tgt := 55) C.1 C.2.1 dX3_greyShade_19 (by decide) (fun hc1 => ?_) (fun hc1 => ?_)
    · replace hf := ea_if_t hc1 hf
      exact hk55 _ _ _ _ _ _ hf hw (lv_sub hl [0, 2, 3] rfl)
    · replace hf := ea_if_f hc1 hf
      refine lv_iload_n C.1 C.2.1 dX3_greyShade_22 rfl (lv_at hl 3 rfl) ?_
      refine lv_aload_n C.1 C.2.1 dX3_greyShade_23 rfl (lv_at hl 0 rfl) ?_
      refine gf_X3_22 C hw ho0 dX3_greyShade_24 ?_
      refine lv_iload C.1 C.2.1 dX3_greyShade_27 (lv_at hl 4 rfl) ?_
      obtain ⟨hc2, hf⟩ := ea_ck_s hf
      refine ea_iald C hw (ok_3_5 ho0) hc2 dX3_greyShade_29 ?_
      refine lv_aload_n C.1 C.2.1 dX3_greyShade_30 rfl (lv_at hl 0 rfl) ?_
      refine gf_X3_19 C hw ho0 dX3_greyShade_31 ?_
      refine lv_iload C.1 C.2.1 dX3_greyShade_34 (lv_at hl 4 rfl) ?_
      obtain ⟨hc3, hf⟩ := ea_ck_s hf
      refine ea_iald C hw (ok_3_4 ho0) hc3 dX3_greyShade_36 ?_
      refine lv_isub C.1 C.2.1 dX3_greyShade_37 ?_
      refine lv_iload_n C.1 C.2.1 dX3_greyShade_38 rfl (lv_at hl 1 rfl) ?_
      refine lv_icmp_gt (tgt := 46) C.1 C.2.1 dX3_greyShade_39 (by decide) (fun hc4 => ?_) (fun hc4 => ?_)
      · replace hf := ea_if_t hc4 hf
        refine lv_iconst (v := 0) C.1 C.2.1 dX3_greyShade_46 (by decide) ?_
        exact wX3_greyShade_47 C hX ho0 ih _ _ _ _ _ _ _ _ _ hf hw (lv_sub hl [0, 1, 2, 4] rfl)
      · replace hf := ea_if_f hc4 hf
        refine lv_iconst (v := 1) C.1 C.2.1 dX3_greyShade_42 (by decide) ?_
        refine lv_goto (tgt := 47) C.1 C.2.1 dX3_greyShade_43 (by decide) ?_
        exact wX3_greyShade_47 C hX ho0 ih _ _ _ _ _ _ _ _ _ hf hw (lv_sub hl [0, 1, 2, 4] rfl)
set_option maxHeartbeats 4000000 in
set_option maxRecDepth 20000 in
theorem wX3_greyShade_55 (C : ea_C p s m args meth cd cX3_greyShade 5 (some .int) RX3) (hX : ea_X ids) (ho0 : ea_ok ids a0 3) : ∀ (x2 : Int32) (x3 : Int32) (M : eM) (H : Heap) (locs : List Loc) (ls : Array Slot), fX3_greyShade_55 a0 x2 x3 M = some res → ea_w E ids M s H locs → lv_has ls 5 [(0, .ref (E.1 a0)), (2, .int x2), (3, .int x3)] → W p l e (ea_rm 0 0) s m args below meth cd H locs 0 0 (MQ below (ea_Qi E ids res) args s 0 0 (ea_Ad E ids)) (F0 m 55 ls []) := by
  intro x2 x3 M H locs ls hf  hw hl
  replace hf := (fX3_greyShade_55.eq_1 ..).symm.trans hf
  refine lv_iload_n C.1 C.2.1 dX3_greyShade_55 rfl (lv_at hl 2 rfl) ?_
  refine lv_if_eq (tgt := 77) C.1 C.2.1 dX3_greyShade_56 (by decide) (fun hc1 => ?_) (fun hc1 => ?_)
  · replace hf := ea_if_t hc1 hf
    refine lv_bipush (v := 50) C.1 C.2.1 dX3_greyShade_77 (by decide) ?_
    exact ea_iret C hw hf dX3_greyShade_79
  · replace hf := ea_if_f hc1 hf
    refine lv_aload_n C.1 C.2.1 dX3_greyShade_59 rfl (lv_at hl 0 rfl) ?_
    refine gf_X3_19 C hw ho0 dX3_greyShade_60 ?_
    refine lv_iload_n C.1 C.2.1 dX3_greyShade_63 rfl (lv_at hl 1 rfl) ?_
    obtain ⟨hc2, hf⟩ := ea_ck_s hf
    refine ea_iald C hw (ok_3_4 ho0) hc2 dX3_greyShade_64 ?_
    refine lv_aload_n C.1 C.2.1 dX3_greyShade_65 rfl (lv_at hl 0 rfl) ?_
    refine gf_X3_22 C hw ho0 dX3_greyShade_66 ?_
    refine lv_iload_n C.1 C.2.1 dX3_greyShade_69 rfl (lv_at hl 1 rfl) ?_
    obtain ⟨hc3, hf⟩ := ea_ck_s hf
    refine ea_iald C hw (ok_3_5 ho0) hc3 dX3_greyShade_70 ?_
    refine lv_iadd C.1 C.2.1 dX3_greyShade_71 ?_
    refine lv_iconst (v := 2) C.1 C.2.1 dX3_greyShade_72 (by decide) ?_
    refine lv_idiv C.1 C.2.1 dX3_greyShade_73 (by decide) ?_
    refine lv_goto (tgt := 79) C.1 C.2.1 dX3_greyShade_74 (by decide) ?_
    exact ea_iret C hw hf dX3_greyShade_79
set_option maxHeartbeats 4000000 in
set_option maxRecDepth 20000 in
theorem wX3_greyShade_12 (C : ea_C p s m args meth cd cX3_greyShade 5 (some .int) RX3) (hX : ea_X ids) (ho0 : ea_ok ids a0 3) : ∀ (x1 : Int32) (x2 : Int32) (t0 : Int32) (M : eM) (H : Heap) (locs : List Loc) (ls : Array Slot), fX3_greyShade_12 a0 x1 x2 t0 M = some res → ea_w E ids M s H locs → lv_has ls 5 [(0, .ref (E.1 a0)), (1, .int x1), (2, .int x2)] → W p l e (ea_rm 0 0) s m args below meth cd H locs 0 0 (MQ below (ea_Qi E ids res) args s 0 0 (ea_Ad E ids)) (F0 m 12 ls [.int t0]) := by
  intro x1 x2 t0 M H locs ls hf  hw hl
  replace hf := (fX3_greyShade_12.eq_1 ..).symm.trans hf
  refine lv_istore_n (lv' := [(3, .int t0), (0, .ref (E.1 a0)), (1, .int x1), (2, .int x2)]) C.1 C.2.1 dX3_greyShade_12 rfl hl (by decide) rfl (fun ls hl => ?_)
  refine lv_iconst (v := 0) C.1 C.2.1 dX3_greyShade_13 (by decide) ?_
  refine lv_istore (lv' := [(4, .int (0 : Int32)), (3, .int t0), (0, .ref (E.1 a0)), (1, .int x1), (2, .int x2)]) C.1 C.2.1 dX3_greyShade_14 hl (by decide) rfl (fun ls hl => ?_)
  exact wX3_greyShade_16 C hX ho0 (wX3_greyShade_55 C hX ho0) ea_N _ _ _ _ _ _ _ _ hf hw (lv_sub hl [2, 3, 4, 1, 0] rfl)
set_option maxHeartbeats 4000000 in
set_option maxRecDepth 20000 in
theorem wX3_greyShade_0 (C : ea_C p s m args meth cd cX3_greyShade 5 (some .int) RX3) (hX : ea_X ids) (ho0 : ea_ok ids a0 3) : ∀ (x1 : Int32) (x2 : Int32) (M : eM) (H : Heap) (locs : List Loc) (ls : Array Slot), fX3_greyShade_0 a0 x1 x2 M = some res → ea_w E ids M s H locs → lv_has ls 5 [(0, .ref (E.1 a0)), (1, .int x1), (2, .int x2)] → W p l e (ea_rm 0 0) s m args below meth cd H locs 0 0 (MQ below (ea_Qi E ids res) args s 0 0 (ea_Ad E ids)) (F0 m 0 ls []) := by
  intro x1 x2 M H locs ls hf  hw hl
  replace hf := (fX3_greyShade_0.eq_1 ..).symm.trans hf
  refine lv_aload_n C.1 C.2.1 dX3_greyShade_0 rfl (lv_at hl 0 rfl) ?_
  refine gf_X3_140 C hw ho0 dX3_greyShade_1 ?_
  refine lv_if_le (tgt := 11) C.1 C.2.1 dX3_greyShade_4 (by decide) (fun hc1 => ?_) (fun hc1 => ?_)
  · replace hf := ea_if_t hc1 hf
    refine lv_iconst (v := 0) C.1 C.2.1 dX3_greyShade_11 (by decide) ?_
    exact wX3_greyShade_12 C hX ho0 _ _ _ _ _ _ _ hf hw (lv_sub hl [0, 1, 2] rfl)
  · replace hf := ea_if_f hc1 hf
    refine lv_iconst (v := 1) C.1 C.2.1 dX3_greyShade_7 (by decide) ?_
    refine lv_goto (tgt := 12) C.1 C.2.1 dX3_greyShade_8 (by decide) ?_
    exact wX3_greyShade_12 C hX ho0 _ _ _ _ _ _ _ hf hw (lv_sub hl [0, 1, 2] rfl)
set_option maxHeartbeats 4000000 in
set_option maxRecDepth 20000 in
theorem mX3_greyShade {l : Launch} {E : eE} {ids : List Nat} (hX : ea_X ids) {a0 : Nat} {x1 : Int32} {x2 : Int32} (ho0 : ea_ok ids a0 3) {M : eM} {res : Int32 × eM} (hf : fX3_greyShade a0 x1 x2 M = some res) : ea_Mi l yX3_greyShade cX3_greyShade 5 (some .int) 0 0 E ids [.ref (E.1 a0), .int x1, .int x2] M res := by
  refine ea_goi (by decide) (Nat.le_of_ble_eq_true rfl) wc_X3_greyShade ?_
  intro p e s m below meth cd ls C hw hl
  exact wX3_greyShade_0 C hX ho0 _ _ _ _ _ _ hf hw hl
end SX3_greyShade

def fX5_shadeOf_0 (a0 : Nat) (x1 : Int32) (x2 : Int32) (M : eM) : Option (Int32 × eM) := ea_ck (ea_ix x1 (ea_len 5)) (ea_ck (ea_ix (((M.1 5 x1.toNatClampNeg) * (3 : Int32)) + x2) (ea_len (a0 + 1))) (ea_ck (ea_ix x1 (ea_len 6)) (ea_ck (ea_ix (((M.1 6 x1.toNatClampNeg) * (3 : Int32)) + x2) (ea_len (a0 + 1))) (some (ea_max (0 : Int32) (((99 : Int32) - (M.1 (a0 + 1) (((M.1 5 x1.toNatClampNeg) * (3 : Int32)) + x2).toNatClampNeg)) - (M.1 (a0 + 1) (((M.1 6 x1.toNatClampNeg) * (3 : Int32)) + x2).toNatClampNeg)), M)))))
def fX5_shadeOf (a0 : Nat) (x1 : Int32) (x2 : Int32) (M : eM) : Option (Int32 × eM) := fX5_shadeOf_0 a0 x1 x2 M
section SX5_shadeOf
variable {p : Program} {l : Launch} {e : Env} {s : State} {m : MethodId} {args : Array Value} {below : List Frame} {meth : Method} {cd : Code} {E : eE} {ids : List Nat} {res : Int32 × eM} {a0 : Nat}
set_option maxHeartbeats 4000000 in
set_option maxRecDepth 20000 in
theorem wX5_shadeOf_0 (C : ea_C p s m args meth cd cX5_shadeOf 3 (some .int) RX5) (hX : ea_X ids) (ho0 : ea_ok ids a0 5) : ∀ (x1 : Int32) (x2 : Int32) (M : eM) (H : Heap) (locs : List Loc) (ls : Array Slot), fX5_shadeOf_0 a0 x1 x2 M = some res → ea_w E ids M s H locs → lv_has ls 3 [(0, .ref (E.1 a0)), (1, .int x1), (2, .int x2)] → W p l e (ea_rm 1 21) s m args below meth cd H locs 0 0 (MQ below (ea_Qi E ids res) args s 0 0 (ea_Ad E ids)) (F0 m 0 ls []) := by
  intro x1 x2 M H locs ls hf  hw hl
  replace hf := (fX5_shadeOf_0.eq_1 ..).symm.trans hf
  refine lv_iconst (v := 0) C.1 C.2.1 dX5_shadeOf_0 (by decide) ?_
  refine lv_bipush (v := 99) C.1 C.2.1 dX5_shadeOf_1 (by decide) ?_
  refine lv_aload_n C.1 C.2.1 dX5_shadeOf_3 rfl (lv_at hl 0 rfl) ?_
  refine gf_X5_9 C hw ho0 dX5_shadeOf_4 ?_
  refine lv_aload_n C.1 C.2.1 dX5_shadeOf_7 rfl (lv_at hl 0 rfl) ?_
  refine gf_X5_15 C hw ho0 dX5_shadeOf_8 ?_
  refine gf_X5_39 C hw (hX 4 9 rfl) dX5_shadeOf_11 ?_
  refine W.eq (g2 := F0 m 14 ls [.ref (E.1 5), .ref (E.1 (a0 + 1)), .int (99 : Int32), .int (0 : Int32)]) rfl ?_
  refine lv_iload_n C.1 C.2.1 dX5_shadeOf_14 rfl (lv_at hl 1 rfl) ?_
  obtain ⟨hc1, hf⟩ := ea_ck_s hf
  refine ea_iald C hw (show ea_ok ids 5 20 from ok_9_2 (hX 4 9 rfl)) hc1 dX5_shadeOf_15 ?_
  refine lv_iconst (v := 3) C.1 C.2.1 dX5_shadeOf_16 (by decide) ?_
  refine lv_imul C.1 C.2.1 dX5_shadeOf_17 ?_
  refine lv_iload_n C.1 C.2.1 dX5_shadeOf_18 rfl (lv_at hl 2 rfl) ?_
  refine lv_iadd C.1 C.2.1 dX5_shadeOf_19 ?_
  obtain ⟨hc2, hf⟩ := ea_ck_s hf
  refine ea_iald C hw (ok_5_1 ho0) hc2 dX5_shadeOf_20 ?_
  refine lv_isub C.1 C.2.1 dX5_shadeOf_21 ?_
  refine lv_aload_n C.1 C.2.1 dX5_shadeOf_22 rfl (lv_at hl 0 rfl) ?_
  refine gf_X5_9 C hw ho0 dX5_shadeOf_23 ?_
  refine lv_aload_n C.1 C.2.1 dX5_shadeOf_26 rfl (lv_at hl 0 rfl) ?_
  refine gf_X5_15 C hw ho0 dX5_shadeOf_27 ?_
  refine gf_X5_42 C hw (hX 4 9 rfl) dX5_shadeOf_30 ?_
  refine W.eq (g2 := F0 m 33 ls [.ref (E.1 6), .ref (E.1 (a0 + 1)), .int ((99 : Int32) - (M.1 (a0 + 1) (((M.1 5 x1.toNatClampNeg) * (3 : Int32)) + x2).toNatClampNeg)), .int (0 : Int32)]) rfl ?_
  refine lv_iload_n C.1 C.2.1 dX5_shadeOf_33 rfl (lv_at hl 1 rfl) ?_
  obtain ⟨hc3, hf⟩ := ea_ck_s hf
  refine ea_iald C hw (show ea_ok ids 6 20 from ok_9_3 (hX 4 9 rfl)) hc3 dX5_shadeOf_34 ?_
  refine lv_iconst (v := 3) C.1 C.2.1 dX5_shadeOf_35 (by decide) ?_
  refine lv_imul C.1 C.2.1 dX5_shadeOf_36 ?_
  refine lv_iload_n C.1 C.2.1 dX5_shadeOf_37 rfl (lv_at hl 2 rfl) ?_
  refine lv_iadd C.1 C.2.1 dX5_shadeOf_38 ?_
  obtain ⟨hc4, hf⟩ := ea_ck_s hf
  refine ea_iald C hw (ok_5_1 ho0) hc4 dX5_shadeOf_39 ?_
  refine lv_isub C.1 C.2.1 dX5_shadeOf_40 ?_
  refine mm_X5_45 C hl.1 (by decide) (Nat.le_of_ble_eq_true rfl) ⟨Nat.le_refl _, Nat.le_refl _⟩ dX5_shadeOf_41 ?_
  exact ea_iret C hw hf dX5_shadeOf_44
set_option maxHeartbeats 4000000 in
set_option maxRecDepth 20000 in
theorem mX5_shadeOf {l : Launch} {E : eE} {ids : List Nat} (hX : ea_X ids) {a0 : Nat} {x1 : Int32} {x2 : Int32} (ho0 : ea_ok ids a0 5) {M : eM} {res : Int32 × eM} (hf : fX5_shadeOf a0 x1 x2 M = some res) : ea_Mi l yX5_shadeOf cX5_shadeOf 3 (some .int) 1 21 E ids [.ref (E.1 a0), .int x1, .int x2] M res := by
  refine ea_goi (by decide) (Nat.le_of_ble_eq_true rfl) wc_X5_shadeOf ?_
  intro p e s m below meth cd ls C hw hl
  exact wX5_shadeOf_0 C hX ho0 _ _ _ _ _ _ hf hw hl
end SX5_shadeOf

def fX3_measureSpan_49 (k102 : Int32 → eM → Option (eM)) (a0 : Nat) : Nat → Int32 → Int32 → eM → Option (eM)
  | 0, _, _, _ => none
  | n + 1, x1, x2, M => if (3 : Int32) ≤ x2 then (k102 x1 M) else (ea_ci (fX5_shadeOf (a0 + 1) x1 x2 M) (fun r3 M4 => ea_ck (ea_ix x2 (ea_len (a0 + 4))) (ea_ck (ea_ix x2 (ea_len (a0 + 4))) (ea_ck (ea_ix x2 (ea_len (a0 + 5))) (ea_ck (ea_ix x2 (ea_len (a0 + 5))) (fX3_measureSpan_49 k102 a0 n x1 (x2 + (1 : Int32)) (ea_pI (ea_pI M4 (a0 + 4) (x2.toNatClampNeg) (ea_min (M4.1 (a0 + 4) x2.toNatClampNeg) r3)) (a0 + 5) (x2.toNatClampNeg) (ea_max ((ea_pI M4 (a0 + 4) (x2.toNatClampNeg) (ea_min (M4.1 (a0 + 4) x2.toNatClampNeg) r3)).1 (a0 + 5) x2.toNatClampNeg) r3))))))))
def fX3_measureSpan_102 (k27 : Int32 → eM → Option (eM)) (a0 : Nat) (x1 : Int32) (M : eM) : Option (eM) := k27 (x1 + (1 : Int32)) M
def fX3_measureSpan_27 (a0 : Nat) : Nat → Int32 → eM → Option (eM)
  | 0, _, _ => none
  | n + 1, x1, M => if (M.1 4 1) ≤ x1 then (some M) else (ea_ck (ea_ix x1 (ea_len (a0 + 3))) (if (M.1 (a0 + 3) x1.toNatClampNeg) = 0 then (fX3_measureSpan_102 (fX3_measureSpan_27 a0 n) a0 x1 M) else (fX3_measureSpan_49 (fX3_measureSpan_102 (fX3_measureSpan_27 a0 n) a0) a0 ea_N x1 (0 : Int32) M)))
def fX3_measureSpan_0 (a0 : Nat) (M : eM) : Option (eM) := ea_cv (fX5_mix (a0 + 1) (0 : Int32) M) (fun M2 => ea_cv (fJ7_fill_53178 (a0 + 4) (99 : Int32) M2) (fun M4 => ea_cv (fJ7_fill_53178 (a0 + 5) (0 : Int32) M4) (fun M6 => fX3_measureSpan_27 a0 ea_N (0 : Int32) M6)))
def fX3_measureSpan (a0 : Nat) (M : eM) : Option (eM) := fX3_measureSpan_0 a0 M
section SX3_measureSpan
variable {p : Program} {l : Launch} {e : Env} {s : State} {m : MethodId} {args : Array Value} {below : List Frame} {meth : Method} {cd : Code} {E : eE} {ids : List Nat} {res : eM} {a0 : Nat}
set_option maxHeartbeats 4000000 in
set_option maxRecDepth 20000 in
theorem wX3_measureSpan_49 (C : ea_C p s m args meth cd cX3_measureSpan 4 none RX3) (hX : ea_X ids) (ho0 : ea_ok ids a0 3) {k102 : Int32 → eM → Option (eM)} (hk102 : ∀ (x1 : Int32) (M : eM) (H : Heap) (locs : List Loc) (ls : Array Slot), k102 x1 M = some res → ea_w E ids M s H locs → lv_has ls 4 [(0, .ref (E.1 a0)), (1, .int x1)] → W p l e (ea_rm 3 74) s m args below meth cd H locs 0 0 (MQ below (ea_Qv E ids res) args s 0 0 (ea_Ad E ids)) (F0 m 102 ls [])) : ∀ (n : Nat) (x1 : Int32) (x2 : Int32) (M : eM) (H : Heap) (locs : List Loc) (ls : Array Slot), fX3_measureSpan_49 k102 a0 n x1 x2 M = some res → ea_w E ids M s H locs → lv_has ls 4 [(0, .ref (E.1 a0)), (1, .int x1), (2, .int x2)] → W p l e (ea_rm 3 74) s m args below meth cd H locs 0 0 (MQ below (ea_Qv E ids res) args s 0 0 (ea_Ad E ids)) (F0 m 49 ls []) := by
  intro n
  induction n with
  | zero => intro x1 x2 M H locs ls hf; cases hf
  | succ n ih =>
    intro x1 x2 M H locs ls hf  hw hl
    replace hf := (fX3_measureSpan_49.eq_2 ..).symm.trans hf
    refine lv_iload_n C.1 C.2.1 dX3_measureSpan_49 rfl (lv_at hl 2 rfl) ?_
    refine lv_iconst (v := 3) C.1 C.2.1 dX3_measureSpan_50 (by decide) ?_
    refine lv_icmp_ge (tgt := 102) C.1 C.2.1 dX3_measureSpan_51 (by decide) (fun hc1 => ?_) (fun hc1 => ?_)
    · replace hf := ea_if_t hc1 hf
      exact hk102 _ _ _ _ _ hf hw (lv_sub hl [0, 1] rfl)
    · replace hf := ea_if_f hc1 hf
      refine lv_aload_n C.1 C.2.1 dX3_measureSpan_54 rfl (lv_at hl 0 rfl) ?_
      refine gf_X3_50 C hw ho0 dX3_measureSpan_55 ?_
      refine lv_iload_n C.1 C.2.1 dX3_measureSpan_58 rfl (lv_at hl 1 rfl) ?_
      refine lv_iload_n C.1 C.2.1 dX3_measureSpan_59 rfl (lv_at hl 2 rfl) ?_
      obtain ⟨r3, M4, he2, hf⟩ := ea_ci_s hf
      refine ea_runi2 hw (cl_X3_158 C hw (ok_3_2 ho0) (As := [.int x1, .int x2]) (rest := []) (mX5_shadeOf (l := l) (E := E) (ids := ids) hX (ok_3_2 ho0) he2) (by decide) rfl hl.1 rfl (Nat.le_of_ble_eq_true rfl) dX3_measureSpan_60 ⟨Nat.le_refl _, Nat.le_refl _⟩) (fun H locs hw => ?_)
      refine lv_istore_n (lv' := [(3, .int r3), (0, .ref (E.1 a0)), (1, .int x1), (2, .int x2)]) C.1 C.2.1 dX3_measureSpan_63 rfl hl (by decide) rfl (fun ls hl => ?_)
      refine lv_aload_n C.1 C.2.1 dX3_measureSpan_64 rfl (lv_at hl 1 rfl) ?_
      refine gf_X3_19 C hw ho0 dX3_measureSpan_65 ?_
      refine lv_iload_n C.1 C.2.1 dX3_measureSpan_68 rfl (lv_at hl 3 rfl) ?_
      refine lv_aload_n C.1 C.2.1 dX3_measureSpan_69 rfl (lv_at hl 1 rfl) ?_
      refine gf_X3_19 C hw ho0 dX3_measureSpan_70 ?_
      refine lv_iload_n C.1 C.2.1 dX3_measureSpan_73 rfl (lv_at hl 3 rfl) ?_
      obtain ⟨hc5, hf⟩ := ea_ck_s hf
      refine ea_iald C hw (ok_3_4 ho0) hc5 dX3_measureSpan_74 ?_
      refine lv_iload_n C.1 C.2.1 dX3_measureSpan_75 rfl (lv_at hl 0 rfl) ?_
      refine mm_X3_161 C hl.1 (by decide) (Nat.le_of_ble_eq_true rfl) ⟨Nat.le_refl _, Nat.le_refl _⟩ dX3_measureSpan_76 ?_
      obtain ⟨hc6, hf⟩ := ea_ck_s hf
      refine ea_iast C hw (ok_3_4 ho0) hc6 dX3_measureSpan_79 (fun H locs hw => ?_)
      refine lv_aload_n C.1 C.2.1 dX3_measureSpan_80 rfl (lv_at hl 1 rfl) ?_
      refine gf_X3_22 C hw ho0 dX3_measureSpan_81 ?_
      refine lv_iload_n C.1 C.2.1 dX3_measureSpan_84 rfl (lv_at hl 3 rfl) ?_
      refine lv_aload_n C.1 C.2.1 dX3_measureSpan_85 rfl (lv_at hl 1 rfl) ?_
      refine gf_X3_22 C hw ho0 dX3_measureSpan_86 ?_
      refine lv_iload_n C.1 C.2.1 dX3_measureSpan_89 rfl (lv_at hl 3 rfl) ?_
      obtain ⟨hc7, hf⟩ := ea_ck_s hf
      refine ea_iald C hw (ok_3_5 ho0) hc7 dX3_measureSpan_90 ?_
      refine lv_iload_n C.1 C.2.1 dX3_measureSpan_91 rfl (lv_at hl 0 rfl) ?_
      refine mm_X3_166 C hl.1 (by decide) (Nat.le_of_ble_eq_true rfl) ⟨Nat.le_refl _, Nat.le_refl _⟩ dX3_measureSpan_92 ?_
      obtain ⟨hc8, hf⟩ := ea_ck_s hf
      refine ea_iast C hw (ok_3_5 ho0) hc8 dX3_measureSpan_95 (fun H locs hw => ?_)
      refine lv_iinc (v := x2 + (1 : Int32)) (lv' := [(2, .int (x2 + (1 : Int32))), (3, .int r3), (0, .ref (E.1 a0)), (1, .int x1)]) C.1 C.2.1 dX3_measureSpan_96 hl (k := 3) rfl rfl (by decide) rfl (fun ls hl => ?_)
      refine lv_goto (tgt := 49) C.1 C.2.1 dX3_measureSpan_99 (by decide) ?_
      exact ih _ _ _ _ _ _ hf hw (lv_sub hl [2, 3, 0] rfl)
set_option maxHeartbeats 4000000 in
set_option maxRecDepth 20000 in
theorem wX3_measureSpan_102 (C : ea_C p s m args meth cd cX3_measureSpan 4 none RX3) (hX : ea_X ids) (ho0 : ea_ok ids a0 3) {k27 : Int32 → eM → Option (eM)} (hk27 : ∀ (x1 : Int32) (M : eM) (H : Heap) (locs : List Loc) (ls : Array Slot), k27 x1 M = some res → ea_w E ids M s H locs → lv_has ls 4 [(0, .ref (E.1 a0)), (1, .int x1)] → W p l e (ea_rm 3 74) s m args below meth cd H locs 0 0 (MQ below (ea_Qv E ids res) args s 0 0 (ea_Ad E ids)) (F0 m 27 ls [])) : ∀ (x1 : Int32) (M : eM) (H : Heap) (locs : List Loc) (ls : Array Slot), fX3_measureSpan_102 k27 a0 x1 M = some res → ea_w E ids M s H locs → lv_has ls 4 [(0, .ref (E.1 a0)), (1, .int x1)] → W p l e (ea_rm 3 74) s m args below meth cd H locs 0 0 (MQ below (ea_Qv E ids res) args s 0 0 (ea_Ad E ids)) (F0 m 102 ls []) := by
  intro x1 M H locs ls hf  hw hl
  replace hf := (fX3_measureSpan_102.eq_1 ..).symm.trans hf
  refine lv_iinc (v := x1 + (1 : Int32)) (lv' := [(1, .int (x1 + (1 : Int32))), (0, .ref (E.1 a0))]) C.1 C.2.1 dX3_measureSpan_102 hl (k := 1) rfl rfl (by decide) rfl (fun ls hl => ?_)
  refine lv_goto (tgt := 27) C.1 C.2.1 dX3_measureSpan_105 (by decide) ?_
  exact hk27 _ _ _ _ _ hf hw (lv_sub hl [1, 0] rfl)
set_option maxHeartbeats 4000000 in
set_option maxRecDepth 20000 in
theorem wX3_measureSpan_27 (C : ea_C p s m args meth cd cX3_measureSpan 4 none RX3) (hX : ea_X ids) (ho0 : ea_ok ids a0 3) : ∀ (n : Nat) (x1 : Int32) (M : eM) (H : Heap) (locs : List Loc) (ls : Array Slot), fX3_measureSpan_27 a0 n x1 M = some res → ea_w E ids M s H locs → lv_has ls 4 [(0, .ref (E.1 a0)), (1, .int x1)] → W p l e (ea_rm 3 74) s m args below meth cd H locs 0 0 (MQ below (ea_Qv E ids res) args s 0 0 (ea_Ad E ids)) (F0 m 27 ls []) := by
  intro n
  induction n with
  | zero => intro x1 M H locs ls hf; cases hf
  | succ n ih =>
    intro x1 M H locs ls hf  hw hl
    replace hf := (fX3_measureSpan_27.eq_2 ..).symm.trans hf
    refine lv_iload_n C.1 C.2.1 dX3_measureSpan_27 rfl (lv_at hl 1 rfl) ?_
    refine lv_aload_n C.1 C.2.1 dX3_measureSpan_28 rfl (lv_at hl 0 rfl) ?_
    refine gf_X3_37 C hw ho0 dX3_measureSpan_29 ?_
    refine gf_X3_72 C hw (hX 4 9 rfl) dX3_measureSpan_32 ?_
    refine lv_icmp_ge (tgt := 108) C.1 C.2.1 dX3_measureSpan_35 (by decide) (fun hc1 => ?_) (fun hc1 => ?_)
    · replace hf := ea_if_t hc1 hf
      exact ea_vret C hw hf dX3_measureSpan_108
    · replace hf := ea_if_f hc1 hf
      refine lv_aload_n C.1 C.2.1 dX3_measureSpan_38 rfl (lv_at hl 0 rfl) ?_
      refine gf_X3_13 C hw ho0 dX3_measureSpan_39 ?_
      refine lv_iload_n C.1 C.2.1 dX3_measureSpan_42 rfl (lv_at hl 1 rfl) ?_
      obtain ⟨hc2, hf⟩ := ea_ck_s hf
      refine ea_iald C hw (ok_3_3 ho0) hc2 dX3_measureSpan_43 ?_
      refine lv_if_eq (tgt := 102) C.1 C.2.1 dX3_measureSpan_44 (by decide) (fun hc3 => ?_) (fun hc3 => ?_)
      · replace hf := ea_if_t hc3 hf
        exact wX3_measureSpan_102 C hX ho0 ih _ _ _ _ _ hf hw (lv_sub hl [0, 1] rfl)
      · replace hf := ea_if_f hc3 hf
        refine lv_iconst (v := 0) C.1 C.2.1 dX3_measureSpan_47 (by decide) ?_
        refine lv_istore_n (lv' := [(2, .int (0 : Int32)), (0, .ref (E.1 a0)), (1, .int x1)]) C.1 C.2.1 dX3_measureSpan_48 rfl hl (by decide) rfl (fun ls hl => ?_)
        exact wX3_measureSpan_49 C hX ho0 (wX3_measureSpan_102 C hX ho0 ih) ea_N _ _ _ _ _ _ hf hw (lv_sub hl [1, 2, 0] rfl)
set_option maxHeartbeats 4000000 in
set_option maxRecDepth 20000 in
theorem wX3_measureSpan_0 (C : ea_C p s m args meth cd cX3_measureSpan 4 none RX3) (hX : ea_X ids) (ho0 : ea_ok ids a0 3) : ∀  (M : eM) (H : Heap) (locs : List Loc) (ls : Array Slot), fX3_measureSpan_0 a0 M = some res → ea_w E ids M s H locs → lv_has ls 4 [(0, .ref (E.1 a0))] → W p l e (ea_rm 3 74) s m args below meth cd H locs 0 0 (MQ below (ea_Qv E ids res) args s 0 0 (ea_Ad E ids)) (F0 m 0 ls []) := by
  intro M H locs ls hf  hw hl
  replace hf := (fX3_measureSpan_0.eq_1 ..).symm.trans hf
  refine lv_aload_n C.1 C.2.1 dX3_measureSpan_0 rfl (lv_at hl 0 rfl) ?_
  refine gf_X3_50 C hw ho0 dX3_measureSpan_1 ?_
  refine lv_iconst (v := 0) C.1 C.2.1 dX3_measureSpan_4 (by decide) ?_
  obtain ⟨M2, he1, hf⟩ := ea_cv_s hf
  refine ea_runv hw (cl_X3_91 C hw (ok_3_2 ho0) (As := [.int (0 : Int32)]) (rest := []) (mX5_mix (l := l) (E := E) (ids := ids) hX (ok_3_2 ho0) he1) (by decide) rfl hl.1 rfl (Nat.le_of_ble_eq_true rfl) dX3_measureSpan_5 ⟨Nat.le_refl _, Nat.le_refl _⟩) (fun H locs hw => ?_)
  refine lv_aload_n C.1 C.2.1 dX3_measureSpan_8 rfl (lv_at hl 0 rfl) ?_
  refine gf_X3_19 C hw ho0 dX3_measureSpan_9 ?_
  refine lv_bipush (v := 99) C.1 C.2.1 dX3_measureSpan_12 (by decide) ?_
  obtain ⟨M4, he3, hf⟩ := ea_cv_s hf
  refine ea_runv hw (cl_X3_155 C hw (As := [.ref (E.1 (a0 + 4)), .int (99 : Int32)]) (rest := []) (mJ7_fill_53178 (l := l) (E := E) (ids := ids) (ok_3_4 ho0) he3) (by decide) rfl hl.1 rfl (Nat.le_of_ble_eq_true rfl) dX3_measureSpan_14 ⟨Nat.le_refl _, Nat.le_refl _⟩) (fun H locs hw => ?_)
  refine lv_aload_n C.1 C.2.1 dX3_measureSpan_17 rfl (lv_at hl 0 rfl) ?_
  refine gf_X3_22 C hw ho0 dX3_measureSpan_18 ?_
  refine lv_iconst (v := 0) C.1 C.2.1 dX3_measureSpan_21 (by decide) ?_
  obtain ⟨M6, he5, hf⟩ := ea_cv_s hf
  refine ea_runv hw (cl_X3_155 C hw (As := [.ref (E.1 (a0 + 5)), .int (0 : Int32)]) (rest := []) (mJ7_fill_53178 (l := l) (E := E) (ids := ids) (ok_3_5 ho0) he5) (by decide) rfl hl.1 rfl (Nat.le_of_ble_eq_true rfl) dX3_measureSpan_22 ⟨Nat.le_refl _, Nat.le_refl _⟩) (fun H locs hw => ?_)
  refine lv_iconst (v := 0) C.1 C.2.1 dX3_measureSpan_25 (by decide) ?_
  refine lv_istore_n (lv' := [(1, .int (0 : Int32)), (0, .ref (E.1 a0))]) C.1 C.2.1 dX3_measureSpan_26 rfl hl (by decide) rfl (fun ls hl => ?_)
  exact wX3_measureSpan_27 C hX ho0 ea_N _ _ _ _ _ hf hw (lv_sub hl [1, 0] rfl)
set_option maxHeartbeats 4000000 in
set_option maxRecDepth 20000 in
theorem mX3_measureSpan {l : Launch} {E : eE} {ids : List Nat} (hX : ea_X ids) {a0 : Nat} (ho0 : ea_ok ids a0 3) {M : eM} {res : eM} (hf : fX3_measureSpan a0 M = some res) : ea_Mv l yX3_measureSpan cX3_measureSpan 4 3 74 E ids [.ref (E.1 a0)] M res := by
  refine ea_gov (by decide) (Nat.le_of_ble_eq_true rfl) wc_X3_measureSpan ?_
  intro p e s m below meth cd ls C hw hl
  exact wX3_measureSpan_0 C hX ho0  _ _ _ _ hf hw hl
end SX3_measureSpan

def fX6_placeOf_0 (x0 : Int32) (x1 : Int32) (M : eM) : Option (Int32 × eM) := some (((x0 * (21 : Int32)) + x1) * (3 : Int32), M)
def fX6_placeOf (x0 : Int32) (x1 : Int32) (M : eM) : Option (Int32 × eM) := fX6_placeOf_0 x0 x1 M
section SX6_placeOf
variable {p : Program} {l : Launch} {e : Env} {s : State} {m : MethodId} {args : Array Value} {below : List Frame} {meth : Method} {cd : Code} {E : eE} {ids : List Nat} {res : Int32 × eM}
set_option maxHeartbeats 4000000 in
set_option maxRecDepth 20000 in
theorem wX6_placeOf_0 (C : ea_C p s m args meth cd cX6_placeOf 2 (some .int) RX6) (hX : ea_X ids) : ∀ (x0 : Int32) (x1 : Int32) (M : eM) (H : Heap) (locs : List Loc) (ls : Array Slot), fX6_placeOf_0 x0 x1 M = some res → ea_w E ids M s H locs → lv_has ls 2 [(0, .int x0), (1, .int x1)] → W p l e (ea_rm 0 0) s m args below meth cd H locs 0 0 (MQ below (ea_Qi E ids res) args s 0 0 (ea_Ad E ids)) (F0 m 0 ls []) := by
  intro x0 x1 M H locs ls hf  hw hl
  replace hf := (fX6_placeOf_0.eq_1 ..).symm.trans hf
  refine lv_iload_n C.1 C.2.1 dX6_placeOf_0 rfl (lv_at hl 0 rfl) ?_
  refine lv_bipush (v := 21) C.1 C.2.1 dX6_placeOf_1 (by decide) ?_
  refine lv_imul C.1 C.2.1 dX6_placeOf_3 ?_
  refine lv_iload_n C.1 C.2.1 dX6_placeOf_4 rfl (lv_at hl 1 rfl) ?_
  refine lv_iadd C.1 C.2.1 dX6_placeOf_5 ?_
  refine lv_iconst (v := 3) C.1 C.2.1 dX6_placeOf_6 (by decide) ?_
  refine lv_imul C.1 C.2.1 dX6_placeOf_7 ?_
  exact ea_iret C hw hf dX6_placeOf_8
set_option maxHeartbeats 4000000 in
set_option maxRecDepth 20000 in
theorem mX6_placeOf {l : Launch} {E : eE} {ids : List Nat} (hX : ea_X ids) {x0 : Int32} {x1 : Int32} {M : eM} {res : Int32 × eM} (hf : fX6_placeOf x0 x1 M = some res) : ea_Mi l yX6_placeOf cX6_placeOf 2 (some .int) 0 0 E ids [.int x0, .int x1] M res := by
  refine ea_goi (by decide) (Nat.le_of_ble_eq_true rfl) wc_X6_placeOf ?_
  intro p e s m below meth cd ls C hw hl
  exact wX6_placeOf_0 C hX _ _ _ _ _ _ hf hw hl
end SX6_placeOf

def fX6_mayDo_24 : Nat → Int32 → Int32 → Int32 → Int32 → eM → Option (Int32 × eM)
  | 0, _, _, _, _, _ => none
  | n + 1, x4, x5, x6, x7, M => if (3 : Int32) ≤ x7 then (some ((1 : Int32), M)) else (ea_ck (ea_ix (x4 + x7) (ea_len 77)) (ea_ck (ea_ix (x5 + x7) (ea_len 77)) (ea_ck (ea_ix x7 (ea_len 76)) (ea_lt (((M.1 77 (x4 + x7).toNatClampNeg) + (M.1 77 (x5 + x7).toNatClampNeg)) - (M.1 76 x7.toNatClampNeg)) (fun y5 => if (M.1 72 3) < y5 then (some ((0 : Int32), M)) else (ea_ck (ea_ix (x6 + x7) (ea_len 77)) (if (-(M.1 72 3)) ≤ (y5 + (M.1 77 (x6 + x7).toNatClampNeg)) then (fX6_mayDo_24 n x4 x5 x6 (x7 + (1 : Int32)) M) else (some ((0 : Int32), M)))))))))
def fX6_mayDo_0 (x1 : Int32) (x2 : Int32) (x3 : Int32) (M : eM) : Option (Int32 × eM) := ea_ci (fX6_placeOf (0 : Int32) x1 M) (fun r2 M3 => ea_ci (fX6_placeOf (1 : Int32) x2 M3) (fun r5 M6 => ea_ci (fX6_placeOf (2 : Int32) x3 M6) (fun r8 M9 => fX6_mayDo_24 ea_N r2 r5 r8 (0 : Int32) M9)))
def fX6_mayDo (x1 : Int32) (x2 : Int32) (x3 : Int32) (M : eM) : Option (Int32 × eM) := fX6_mayDo_0 x1 x2 x3 M
section SX6_mayDo
variable {p : Program} {l : Launch} {e : Env} {s : State} {m : MethodId} {args : Array Value} {below : List Frame} {meth : Method} {cd : Code} {E : eE} {ids : List Nat} {res : Int32 × eM}
set_option maxHeartbeats 4000000 in
set_option maxRecDepth 20000 in
theorem wX6_mayDo_24 (C : ea_C p s m args meth cd cX6_mayDo 9 (some .boolean) RX6) (hX : ea_X ids) : ∀ (n : Nat) (x4 : Int32) (x5 : Int32) (x6 : Int32) (x7 : Int32) (M : eM) (H : Heap) (locs : List Loc) (ls : Array Slot), fX6_mayDo_24 n x4 x5 x6 x7 M = some res → ea_w E ids M s H locs → lv_has ls 9 [(0, .ref (E.1 72)), (4, .int x4), (5, .int x5), (6, .int x6), (7, .int x7)] → W p l e (ea_rm 1 21) s m args below meth cd H locs 0 0 (MQ below (ea_Qi E ids res) args s 0 0 (ea_Ad E ids)) (F0 m 24 ls []) := by
  intro n
  induction n with
  | zero => intro x4 x5 x6 x7 M H locs ls hf; cases hf
  | succ n ih =>
    intro x4 x5 x6 x7 M H locs ls hf  hw hl
    replace hf := (fX6_mayDo_24.eq_2 ..).symm.trans hf
    refine lv_iload C.1 C.2.1 dX6_mayDo_24 (lv_at hl 4 rfl) ?_
    refine lv_iconst (v := 3) C.1 C.2.1 dX6_mayDo_26 (by decide) ?_
    refine lv_icmp_ge (tgt := 99) C.1 C.2.1 dX6_mayDo_27 (by decide) (fun hc1 => ?_) (fun hc1 => ?_)
    · replace hf := ea_if_t hc1 hf
      refine lv_iconst (v := 1) C.1 C.2.1 dX6_mayDo_99 (by decide) ?_
      exact ea_zret C hw (by decide) hf dX6_mayDo_100
    · replace hf := ea_if_f hc1 hf
      refine lv_aload_n C.1 C.2.1 dX6_mayDo_30 rfl (lv_at hl 0 rfl) ?_
      refine gf_X6_24 C hw (hX 72 6 rfl) dX6_mayDo_31 ?_
      refine W.eq (g2 := F0 m 34 ls [.ref (E.1 77)]) rfl ?_
      refine lv_iload C.1 C.2.1 dX6_mayDo_34 (lv_at hl 1 rfl) ?_
      refine lv_iload C.1 C.2.1 dX6_mayDo_36 (lv_at hl 4 rfl) ?_
      refine lv_iadd C.1 C.2.1 dX6_mayDo_38 ?_
      obtain ⟨hc2, hf⟩ := ea_ck_s hf
      refine ea_iald C hw (show ea_ok ids 77 20 from ok_6_5 (hX 72 6 rfl)) hc2 dX6_mayDo_39 ?_
      refine lv_aload_n C.1 C.2.1 dX6_mayDo_40 rfl (lv_at hl 0 rfl) ?_
      refine gf_X6_24 C hw (hX 72 6 rfl) dX6_mayDo_41 ?_
      refine W.eq (g2 := F0 m 44 ls [.ref (E.1 77), .int (M.1 77 (x4 + x7).toNatClampNeg)]) rfl ?_
      refine lv_iload C.1 C.2.1 dX6_mayDo_44 (lv_at hl 2 rfl) ?_
      refine lv_iload C.1 C.2.1 dX6_mayDo_46 (lv_at hl 4 rfl) ?_
      refine lv_iadd C.1 C.2.1 dX6_mayDo_48 ?_
      obtain ⟨hc3, hf⟩ := ea_ck_s hf
      refine ea_iald C hw (show ea_ok ids 77 20 from ok_6_5 (hX 72 6 rfl)) hc3 dX6_mayDo_49 ?_
      refine lv_iadd C.1 C.2.1 dX6_mayDo_50 ?_
      refine lv_aload_n C.1 C.2.1 dX6_mayDo_51 rfl (lv_at hl 0 rfl) ?_
      refine gf_X6_21 C hw (hX 72 6 rfl) dX6_mayDo_52 ?_
      refine W.eq (g2 := F0 m 55 ls [.ref (E.1 76), .int ((M.1 77 (x4 + x7).toNatClampNeg) + (M.1 77 (x5 + x7).toNatClampNeg))]) rfl ?_
      refine lv_iload C.1 C.2.1 dX6_mayDo_55 (lv_at hl 4 rfl) ?_
      obtain ⟨hc4, hf⟩ := ea_ck_s hf
      refine ea_iald C hw (show ea_ok ids 76 20 from ok_6_4 (hX 72 6 rfl)) hc4 dX6_mayDo_57 ?_
      refine lv_isub C.1 C.2.1 dX6_mayDo_58 ?_
      obtain ⟨y5, ey6, hf⟩ := ea_lt_s hf
      refine ea_topi ey6 ?_
      refine lv_istore (lv' := [(8, .int y5), (0, .ref (E.1 72)), (4, .int x4), (5, .int x5), (6, .int x6), (7, .int x7)]) C.1 C.2.1 dX6_mayDo_59 hl (by decide) rfl (fun ls hl => ?_)
      refine lv_iload C.1 C.2.1 dX6_mayDo_61 (lv_at hl 0 rfl) ?_
      refine lv_aload_n C.1 C.2.1 dX6_mayDo_63 rfl (lv_at hl 1 rfl) ?_
      refine gf_X6_32 C hw (hX 72 6 rfl) dX6_mayDo_64 ?_
      refine lv_icmp_gt (tgt := 91) C.1 C.2.1 dX6_mayDo_67 (by decide) (fun hc7 => ?_) (fun hc7 => ?_)
      · replace hf := ea_if_t hc7 hf
        refine lv_iconst (v := 0) C.1 C.2.1 dX6_mayDo_91 (by decide) ?_
        exact ea_zret C hw (by decide) hf dX6_mayDo_92
      · replace hf := ea_if_f hc7 hf
        refine lv_iload C.1 C.2.1 dX6_mayDo_70 (lv_at hl 0 rfl) ?_
        refine lv_aload_n C.1 C.2.1 dX6_mayDo_72 rfl (lv_at hl 1 rfl) ?_
        refine gf_X6_24 C hw (hX 72 6 rfl) dX6_mayDo_73 ?_
        refine W.eq (g2 := F0 m 76 ls [.ref (E.1 77), .int y5]) rfl ?_
        refine lv_iload C.1 C.2.1 dX6_mayDo_76 (lv_at hl 4 rfl) ?_
        refine lv_iload C.1 C.2.1 dX6_mayDo_78 (lv_at hl 5 rfl) ?_
        refine lv_iadd C.1 C.2.1 dX6_mayDo_80 ?_
        obtain ⟨hc8, hf⟩ := ea_ck_s hf
        refine ea_iald C hw (show ea_ok ids 77 20 from ok_6_5 (hX 72 6 rfl)) hc8 dX6_mayDo_81 ?_
        refine lv_iadd C.1 C.2.1 dX6_mayDo_82 ?_
        refine lv_aload_n C.1 C.2.1 dX6_mayDo_83 rfl (lv_at hl 1 rfl) ?_
        refine gf_X6_32 C hw (hX 72 6 rfl) dX6_mayDo_84 ?_
        refine lv_ineg C.1 C.2.1 dX6_mayDo_87 ?_
        refine lv_icmp_ge (tgt := 93) C.1 C.2.1 dX6_mayDo_88 (by decide) (fun hc9 => ?_) (fun hc9 => ?_)
        · replace hf := ea_if_t hc9 hf
          refine lv_iinc (v := x7 + (1 : Int32)) (lv' := [(7, .int (x7 + (1 : Int32))), (8, .int y5), (0, .ref (E.1 72)), (4, .int x4), (5, .int x5), (6, .int x6)]) C.1 C.2.1 dX6_mayDo_93 hl (k := 5) rfl rfl (by decide) rfl (fun ls hl => ?_)
          refine lv_goto (tgt := 24) C.1 C.2.1 dX6_mayDo_96 (by decide) ?_
          exact ih _ _ _ _ _ _ _ _ hf hw (lv_sub hl [2, 3, 4, 5, 0] rfl)
        · replace hf := ea_if_f hc9 hf
          refine lv_iconst (v := 0) C.1 C.2.1 dX6_mayDo_91 (by decide) ?_
          exact ea_zret C hw (by decide) hf dX6_mayDo_92
set_option maxHeartbeats 4000000 in
set_option maxRecDepth 20000 in
theorem wX6_mayDo_0 (C : ea_C p s m args meth cd cX6_mayDo 9 (some .boolean) RX6) (hX : ea_X ids) : ∀ (x1 : Int32) (x2 : Int32) (x3 : Int32) (M : eM) (H : Heap) (locs : List Loc) (ls : Array Slot), fX6_mayDo_0 x1 x2 x3 M = some res → ea_w E ids M s H locs → lv_has ls 9 [(0, .ref (E.1 72)), (1, .int x1), (2, .int x2), (3, .int x3)] → W p l e (ea_rm 1 21) s m args below meth cd H locs 0 0 (MQ below (ea_Qi E ids res) args s 0 0 (ea_Ad E ids)) (F0 m 0 ls []) := by
  intro x1 x2 x3 M H locs ls hf  hw hl
  replace hf := (fX6_mayDo_0.eq_1 ..).symm.trans hf
  refine lv_iconst (v := 0) C.1 C.2.1 dX6_mayDo_0 (by decide) ?_
  refine lv_iload_n C.1 C.2.1 dX6_mayDo_1 rfl (lv_at hl 1 rfl) ?_
  obtain ⟨r2, M3, he1, hf⟩ := ea_ci_s hf
  refine ea_runi2 hw (cl_X6_55 C hw (As := [.int (0 : Int32), .int x1]) (rest := []) (mX6_placeOf (l := l) (E := E) (ids := ids) hX he1) (by decide) rfl hl.1 rfl (Nat.le_of_ble_eq_true rfl) dX6_mayDo_2 ⟨Nat.le_refl _, Nat.le_refl _⟩) (fun H locs hw => ?_)
  refine lv_istore (lv' := [(4, .int r2), (0, .ref (E.1 72)), (1, .int x1), (2, .int x2), (3, .int x3)]) C.1 C.2.1 dX6_mayDo_5 hl (by decide) rfl (fun ls hl => ?_)
  refine lv_iconst (v := 1) C.1 C.2.1 dX6_mayDo_7 (by decide) ?_
  refine lv_iload_n C.1 C.2.1 dX6_mayDo_8 rfl (lv_at hl 3 rfl) ?_
  obtain ⟨r5, M6, he4, hf⟩ := ea_ci_s hf
  refine ea_runi2 hw (cl_X6_55 C hw (As := [.int (1 : Int32), .int x2]) (rest := []) (mX6_placeOf (l := l) (E := E) (ids := ids) hX he4) (by decide) rfl hl.1 rfl (Nat.le_of_ble_eq_true rfl) dX6_mayDo_9 ⟨Nat.le_refl _, Nat.le_refl _⟩) (fun H locs hw => ?_)
  refine lv_istore (lv' := [(5, .int r5), (4, .int r2), (0, .ref (E.1 72)), (1, .int x1), (2, .int x2), (3, .int x3)]) C.1 C.2.1 dX6_mayDo_12 hl (by decide) rfl (fun ls hl => ?_)
  refine lv_iconst (v := 2) C.1 C.2.1 dX6_mayDo_14 (by decide) ?_
  refine lv_iload_n C.1 C.2.1 dX6_mayDo_15 rfl (lv_at hl 5 rfl) ?_
  obtain ⟨r8, M9, he7, hf⟩ := ea_ci_s hf
  refine ea_runi2 hw (cl_X6_55 C hw (As := [.int (2 : Int32), .int x3]) (rest := []) (mX6_placeOf (l := l) (E := E) (ids := ids) hX he7) (by decide) rfl hl.1 rfl (Nat.le_of_ble_eq_true rfl) dX6_mayDo_16 ⟨Nat.le_refl _, Nat.le_refl _⟩) (fun H locs hw => ?_)
  refine lv_istore (lv' := [(6, .int r8), (5, .int r5), (4, .int r2), (0, .ref (E.1 72)), (1, .int x1), (2, .int x2), (3, .int x3)]) C.1 C.2.1 dX6_mayDo_19 hl (by decide) rfl (fun ls hl => ?_)
  refine lv_iconst (v := 0) C.1 C.2.1 dX6_mayDo_21 (by decide) ?_
  refine lv_istore (lv' := [(7, .int (0 : Int32)), (6, .int r8), (5, .int r5), (4, .int r2), (0, .ref (E.1 72)), (1, .int x1), (2, .int x2), (3, .int x3)]) C.1 C.2.1 dX6_mayDo_22 hl (by decide) rfl (fun ls hl => ?_)
  exact wX6_mayDo_24 C hX ea_N _ _ _ _ _ _ _ _ hf hw (lv_sub hl [4, 3, 2, 1, 0] rfl)
set_option maxHeartbeats 4000000 in
set_option maxRecDepth 20000 in
theorem mX6_mayDo {l : Launch} {E : eE} {ids : List Nat} (hX : ea_X ids) {x1 : Int32} {x2 : Int32} {x3 : Int32} {M : eM} {res : Int32 × eM} (hf : fX6_mayDo x1 x2 x3 M = some res) : ea_Mi l yX6_mayDo cX6_mayDo 9 (some .boolean) 1 21 E ids [.ref (E.1 72), .int x1, .int x2, .int x3] M res := by
  refine ea_goi (by decide) (Nat.le_of_ble_eq_true rfl) wc_X6_mayDo ?_
  intro p e s m below meth cd ls C hw hl
  exact wX6_mayDo_0 C hX _ _ _ _ _ _ _ hf hw hl
end SX6_mayDo

def fX6_sense_63 (k109 : Int32 → Int32 → Int32 → eM → Option (eM)) (a1 : Nat) : Nat → Int32 → Int32 → Int32 → Int32 → Int32 → eM → Option (eM)
  | 0, _, _, _, _, _, _ => none
  | n + 1, x2, x3, x4, x5, x6, M => if (21 : Int32) ≤ x6 then (k109 x2 x3 x4 M) else (ea_ci (fX6_placeOf x4 x6 M) (fun r3 M4 => ea_ck (ea_ix x4 (ea_len 73)) (ea_ck (ea_ix (r3 + x3) (ea_len 77)) (fX6_sense_63 k109 a1 n x2 x3 x4 x5 (x6 + (1 : Int32)) (ea_pI M4 77 ((r3 + x3).toNatClampNeg) (x5 * ((((M4.1 73 x4.toNatClampNeg) * x6) * (10 : Int32)) / (100 : Int32))))))))
def fX6_sense_109 (k17 : Int32 → Int32 → Int32 → eM → Option (eM)) (a1 : Nat) (x2 : Int32) (x3 : Int32) (x4 : Int32) (M : eM) : Option (eM) := k17 x2 x3 (x4 + (1 : Int32)) M
def fX6_sense_17 (k115 : Int32 → Int32 → eM → Option (eM)) (a1 : Nat) : Nat → Int32 → Int32 → Int32 → eM → Option (eM)
  | 0, _, _, _, _ => none
  | n + 1, x2, x3, x4, M => if (3 : Int32) ≤ x4 then (k115 x2 x3 M) else (ea_ck (ea_ix (((x2 * (9 : Int32)) + (x3 * (3 : Int32))) + x4) (ea_len (a1 + 9))) (ea_lt (M.1 (a1 + 9) (((x2 * (9 : Int32)) + (x3 * (3 : Int32))) + x4).toNatClampNeg) (fun y3 => ea_ck (ea_ix x3 (ea_len 76)) (ea_ck (ea_ix x4 (ea_len 74)) (ea_ck (ea_ix x3 (ea_len 76)) (fX6_sense_63 (fX6_sense_109 (fX6_sense_17 k115 a1 n) a1) a1 ea_N x2 x3 x4 y3 (0 : Int32) (ea_pI M 76 (x3.toNatClampNeg) ((M.1 76 x3.toNatClampNeg) + (y3 * (M.1 74 x4.toNatClampNeg))))))))))
def fX6_sense_115 (k2 : Int32 → Int32 → eM → Option (eM)) (a1 : Nat) (x2 : Int32) (x3 : Int32) (M : eM) : Option (eM) := k2 x2 (x3 + (1 : Int32)) M
def fX6_sense_2 (a1 : Nat) : Nat → Int32 → Int32 → eM → Option (eM)
  | 0, _, _, _ => none
  | n + 1, x2, x3, M => if (3 : Int32) ≤ x3 then (some M) else (ea_ck (ea_ix x3 (ea_len 76)) (fX6_sense_17 (fX6_sense_115 (fX6_sense_2 a1 n) a1) a1 ea_N x2 x3 (0 : Int32) (ea_pI M 76 (x3.toNatClampNeg) (0 : Int32))))
def fX6_sense_0 (a1 : Nat) (x2 : Int32) (M : eM) : Option (eM) := fX6_sense_2 a1 ea_N x2 (0 : Int32) M
def fX6_sense (a1 : Nat) (x2 : Int32) (M : eM) : Option (eM) := fX6_sense_0 a1 x2 M
section SX6_sense
variable {p : Program} {l : Launch} {e : Env} {s : State} {m : MethodId} {args : Array Value} {below : List Frame} {meth : Method} {cd : Code} {E : eE} {ids : List Nat} {res : eM} {a1 : Nat}
set_option maxHeartbeats 4000000 in
set_option maxRecDepth 20000 in
theorem wX6_sense_63 (C : ea_C p s m args meth cd cX6_sense 7 none RX6) (hX : ea_X ids) (ho1 : ea_ok ids a1 1) {k109 : Int32 → Int32 → Int32 → eM → Option (eM)} (hk109 : ∀ (x2 : Int32) (x3 : Int32) (x4 : Int32) (M : eM) (H : Heap) (locs : List Loc) (ls : Array Slot), k109 x2 x3 x4 M = some res → ea_w E ids M s H locs → lv_has ls 7 [(0, .ref (E.1 72)), (1, .ref (E.1 a1)), (2, .int x2), (3, .int x3), (4, .int x4)] → W p l e (ea_rm 1 21) s m args below meth cd H locs 0 0 (MQ below (ea_Qv E ids res) args s 0 0 (ea_Ad E ids)) (F0 m 109 ls [])) : ∀ (n : Nat) (x2 : Int32) (x3 : Int32) (x4 : Int32) (x5 : Int32) (x6 : Int32) (M : eM) (H : Heap) (locs : List Loc) (ls : Array Slot), fX6_sense_63 k109 a1 n x2 x3 x4 x5 x6 M = some res → ea_w E ids M s H locs → lv_has ls 7 [(0, .ref (E.1 72)), (1, .ref (E.1 a1)), (2, .int x2), (3, .int x3), (4, .int x4), (5, .int x5), (6, .int x6)] → W p l e (ea_rm 1 21) s m args below meth cd H locs 0 0 (MQ below (ea_Qv E ids res) args s 0 0 (ea_Ad E ids)) (F0 m 63 ls []) := by
  intro n
  induction n with
  | zero => intro x2 x3 x4 x5 x6 M H locs ls hf; cases hf
  | succ n ih =>
    intro x2 x3 x4 x5 x6 M H locs ls hf  hw hl
    replace hf := (fX6_sense_63.eq_2 ..).symm.trans hf
    refine lv_iload C.1 C.2.1 dX6_sense_63 (lv_at hl 6 rfl) ?_
    refine lv_bipush (v := 21) C.1 C.2.1 dX6_sense_65 (by decide) ?_
    refine lv_icmp_ge (tgt := 109) C.1 C.2.1 dX6_sense_67 (by decide) (fun hc1 => ?_) (fun hc1 => ?_)
    · replace hf := ea_if_t hc1 hf
      exact hk109 _ _ _ _ _ _ _ hf hw (lv_sub hl [0, 1, 2, 3, 4] rfl)
    · replace hf := ea_if_f hc1 hf
      refine lv_aload_n C.1 C.2.1 dX6_sense_70 rfl (lv_at hl 0 rfl) ?_
      refine gf_X6_24 C hw (hX 72 6 rfl) dX6_sense_71 ?_
      refine W.eq (g2 := F0 m 74 ls [.ref (E.1 77)]) rfl ?_
      refine lv_iload C.1 C.2.1 dX6_sense_74 (lv_at hl 4 rfl) ?_
      refine lv_iload C.1 C.2.1 dX6_sense_76 (lv_at hl 6 rfl) ?_
      obtain ⟨r3, M4, he2, hf⟩ := ea_ci_s hf
      refine ea_runi2 hw (cl_X6_55 C hw (As := [.int x4, .int x6]) (rest := [.ref (E.1 77)]) (mX6_placeOf (l := l) (E := E) (ids := ids) hX he2) (by decide) rfl hl.1 rfl (Nat.le_of_ble_eq_true rfl) dX6_sense_78 ⟨Nat.le_refl _, Nat.le_refl _⟩) (fun H locs hw => ?_)
      refine lv_iload_n C.1 C.2.1 dX6_sense_81 rfl (lv_at hl 3 rfl) ?_
      refine lv_iadd C.1 C.2.1 dX6_sense_82 ?_
      refine lv_iload C.1 C.2.1 dX6_sense_83 (lv_at hl 5 rfl) ?_
      refine lv_aload_n C.1 C.2.1 dX6_sense_85 rfl (lv_at hl 0 rfl) ?_
      refine gf_X6_9 C hw (hX 72 6 rfl) dX6_sense_86 ?_
      refine W.eq (g2 := F0 m 89 ls [.ref (E.1 73), .int x5, .int (r3 + x3), .ref (E.1 77)]) rfl ?_
      refine lv_iload C.1 C.2.1 dX6_sense_89 (lv_at hl 4 rfl) ?_
      obtain ⟨hc5, hf⟩ := ea_ck_s hf
      refine ea_iald C hw (show ea_ok ids 73 20 from ok_6_0 (hX 72 6 rfl)) hc5 dX6_sense_91 ?_
      refine lv_iload C.1 C.2.1 dX6_sense_92 (lv_at hl 6 rfl) ?_
      refine lv_imul C.1 C.2.1 dX6_sense_94 ?_
      refine lv_bipush (v := 10) C.1 C.2.1 dX6_sense_95 (by decide) ?_
      refine lv_imul C.1 C.2.1 dX6_sense_97 ?_
      refine lv_bipush (v := 100) C.1 C.2.1 dX6_sense_98 (by decide) ?_
      refine lv_idiv C.1 C.2.1 dX6_sense_100 (by decide) ?_
      refine lv_imul C.1 C.2.1 dX6_sense_101 ?_
      obtain ⟨hc6, hf⟩ := ea_ck_s hf
      refine ea_iast C hw (show ea_ok ids 77 20 from ok_6_5 (hX 72 6 rfl)) hc6 dX6_sense_102 (fun H locs hw => ?_)
      refine lv_iinc (v := x6 + (1 : Int32)) (lv' := [(6, .int (x6 + (1 : Int32))), (0, .ref (E.1 72)), (1, .ref (E.1 a1)), (2, .int x2), (3, .int x3), (4, .int x4), (5, .int x5)]) C.1 C.2.1 dX6_sense_103 hl (k := 6) rfl rfl (by decide) rfl (fun ls hl => ?_)
      refine lv_goto (tgt := 63) C.1 C.2.1 dX6_sense_106 (by decide) ?_
      exact ih _ _ _ _ _ _ _ _ _ hf hw (lv_sub hl [1, 2, 3, 4, 5, 6, 0] rfl)
set_option maxHeartbeats 4000000 in
set_option maxRecDepth 20000 in
theorem wX6_sense_109 (C : ea_C p s m args meth cd cX6_sense 7 none RX6) (hX : ea_X ids) (ho1 : ea_ok ids a1 1) {k17 : Int32 → Int32 → Int32 → eM → Option (eM)} (hk17 : ∀ (x2 : Int32) (x3 : Int32) (x4 : Int32) (M : eM) (H : Heap) (locs : List Loc) (ls : Array Slot), k17 x2 x3 x4 M = some res → ea_w E ids M s H locs → lv_has ls 7 [(0, .ref (E.1 72)), (1, .ref (E.1 a1)), (2, .int x2), (3, .int x3), (4, .int x4)] → W p l e (ea_rm 1 21) s m args below meth cd H locs 0 0 (MQ below (ea_Qv E ids res) args s 0 0 (ea_Ad E ids)) (F0 m 17 ls [])) : ∀ (x2 : Int32) (x3 : Int32) (x4 : Int32) (M : eM) (H : Heap) (locs : List Loc) (ls : Array Slot), fX6_sense_109 k17 a1 x2 x3 x4 M = some res → ea_w E ids M s H locs → lv_has ls 7 [(0, .ref (E.1 72)), (1, .ref (E.1 a1)), (2, .int x2), (3, .int x3), (4, .int x4)] → W p l e (ea_rm 1 21) s m args below meth cd H locs 0 0 (MQ below (ea_Qv E ids res) args s 0 0 (ea_Ad E ids)) (F0 m 109 ls []) := by
  intro x2 x3 x4 M H locs ls hf  hw hl
  replace hf := (fX6_sense_109.eq_1 ..).symm.trans hf
  refine lv_iinc (v := x4 + (1 : Int32)) (lv' := [(4, .int (x4 + (1 : Int32))), (0, .ref (E.1 72)), (1, .ref (E.1 a1)), (2, .int x2), (3, .int x3)]) C.1 C.2.1 dX6_sense_109 hl (k := 4) rfl rfl (by decide) rfl (fun ls hl => ?_)
  refine lv_goto (tgt := 17) C.1 C.2.1 dX6_sense_112 (by decide) ?_
  exact hk17 _ _ _ _ _ _ _ hf hw (lv_sub hl [1, 2, 3, 4, 0] rfl)
set_option maxHeartbeats 4000000 in
set_option maxRecDepth 20000 in
theorem wX6_sense_17 (C : ea_C p s m args meth cd cX6_sense 7 none RX6) (hX : ea_X ids) (ho1 : ea_ok ids a1 1) {k115 : Int32 → Int32 → eM → Option (eM)} (hk115 : ∀ (x2 : Int32) (x3 : Int32) (M : eM) (H : Heap) (locs : List Loc) (ls : Array Slot), k115 x2 x3 M = some res → ea_w E ids M s H locs → lv_has ls 7 [(0, .ref (E.1 72)), (1, .ref (E.1 a1)), (2, .int x2), (3, .int x3)] → W p l e (ea_rm 1 21) s m args below meth cd H locs 0 0 (MQ below (ea_Qv E ids res) args s 0 0 (ea_Ad E ids)) (F0 m 115 ls [])) : ∀ (n : Nat) (x2 : Int32) (x3 : Int32) (x4 : Int32) (M : eM) (H : Heap) (locs : List Loc) (ls : Array Slot), fX6_sense_17 k115 a1 n x2 x3 x4 M = some res → ea_w E ids M s H locs → lv_has ls 7 [(0, .ref (E.1 72)), (1, .ref (E.1 a1)), (2, .int x2), (3, .int x3), (4, .int x4)] → W p l e (ea_rm 1 21) s m args below meth cd H locs 0 0 (MQ below (ea_Qv E ids res) args s 0 0 (ea_Ad E ids)) (F0 m 17 ls []) := by
  intro n
  induction n with
  | zero => intro x2 x3 x4 M H locs ls hf; cases hf
  | succ n ih =>
    intro x2 x3 x4 M H locs ls hf  hw hl
    replace hf := (fX6_sense_17.eq_2 ..).symm.trans hf
    refine lv_iload C.1 C.2.1 dX6_sense_17 (lv_at hl 4 rfl) ?_
    refine lv_iconst (v := 3) C.1 C.2.1 dX6_sense_19 (by decide) ?_
    refine lv_icmp_ge (tgt := 115) C.1 C.2.1 dX6_sense_20 (by decide) (fun hc1 => ?_) (fun hc1 => ?_)
    · replace hf := ea_if_t hc1 hf
      exact hk115 _ _ _ _ _ _ hf hw (lv_sub hl [0, 1, 2, 3] rfl)
    · replace hf := ea_if_f hc1 hf
      refine lv_aload_n C.1 C.2.1 dX6_sense_23 rfl (lv_at hl 1 rfl) ?_
      refine gf_X6_52 C hw ho1 dX6_sense_24 ?_
      refine lv_iload_n C.1 C.2.1 dX6_sense_27 rfl (lv_at hl 2 rfl) ?_
      refine lv_bipush (v := 9) C.1 C.2.1 dX6_sense_28 (by decide) ?_
      refine lv_imul C.1 C.2.1 dX6_sense_30 ?_
      refine lv_iload_n C.1 C.2.1 dX6_sense_31 rfl (lv_at hl 3 rfl) ?_
      refine lv_iconst (v := 3) C.1 C.2.1 dX6_sense_32 (by decide) ?_
      refine lv_imul C.1 C.2.1 dX6_sense_33 ?_
      refine lv_iadd C.1 C.2.1 dX6_sense_34 ?_
      refine lv_iload C.1 C.2.1 dX6_sense_35 (lv_at hl 4 rfl) ?_
      refine lv_iadd C.1 C.2.1 dX6_sense_37 ?_
      obtain ⟨hc2, hf⟩ := ea_ck_s hf
      refine ea_iald C hw (ok_1_17 ho1) hc2 dX6_sense_38 ?_
      obtain ⟨y3, ey4, hf⟩ := ea_lt_s hf
      refine ea_topi ey4 ?_
      refine lv_istore (lv' := [(5, .int y3), (0, .ref (E.1 72)), (1, .ref (E.1 a1)), (2, .int x2), (3, .int x3), (4, .int x4)]) C.1 C.2.1 dX6_sense_39 hl (by decide) rfl (fun ls hl => ?_)
      refine lv_aload_n C.1 C.2.1 dX6_sense_41 rfl (lv_at hl 1 rfl) ?_
      refine gf_X6_21 C hw (hX 72 6 rfl) dX6_sense_42 ?_
      refine W.eq (g2 := F0 m 45 ls [.ref (E.1 76)]) rfl ?_
      refine lv_iload_n C.1 C.2.1 dX6_sense_45 rfl (lv_at hl 4 rfl) ?_
      refine lv_dup2_11 C.1 C.2.1 dX6_sense_46 rfl rfl ?_
      obtain ⟨hc5, hf⟩ := ea_ck_s hf
      refine ea_iald C hw (show ea_ok ids 76 20 from ok_6_4 (hX 72 6 rfl)) hc5 dX6_sense_47 ?_
      refine lv_iload C.1 C.2.1 dX6_sense_48 (lv_at hl 0 rfl) ?_
      refine lv_aload_n C.1 C.2.1 dX6_sense_50 rfl (lv_at hl 1 rfl) ?_
      refine gf_X6_15 C hw (hX 72 6 rfl) dX6_sense_51 ?_
      refine W.eq (g2 := F0 m 54 ls [.ref (E.1 74), .int y3, .int (M.1 76 x3.toNatClampNeg), .int x3, .ref (E.1 76)]) rfl ?_
      refine lv_iload C.1 C.2.1 dX6_sense_54 (lv_at hl 5 rfl) ?_
      obtain ⟨hc6, hf⟩ := ea_ck_s hf
      refine ea_iald C hw (show ea_ok ids 74 20 from ok_6_1 (hX 72 6 rfl)) hc6 dX6_sense_56 ?_
      refine lv_imul C.1 C.2.1 dX6_sense_57 ?_
      refine lv_iadd C.1 C.2.1 dX6_sense_58 ?_
      obtain ⟨hc7, hf⟩ := ea_ck_s hf
      refine ea_iast C hw (show ea_ok ids 76 20 from ok_6_4 (hX 72 6 rfl)) hc7 dX6_sense_59 (fun H locs hw => ?_)
      refine lv_iconst (v := 0) C.1 C.2.1 dX6_sense_60 (by decide) ?_
      refine lv_istore (lv' := [(6, .int (0 : Int32)), (5, .int y3), (0, .ref (E.1 72)), (1, .ref (E.1 a1)), (2, .int x2), (3, .int x3), (4, .int x4)]) C.1 C.2.1 dX6_sense_61 hl (by decide) rfl (fun ls hl => ?_)
      exact wX6_sense_63 C hX ho1 (wX6_sense_109 C hX ho1 ih) ea_N _ _ _ _ _ _ _ _ _ hf hw (lv_sub hl [2, 3, 4, 5, 6, 1, 0] rfl)
set_option maxHeartbeats 4000000 in
set_option maxRecDepth 20000 in
theorem wX6_sense_115 (C : ea_C p s m args meth cd cX6_sense 7 none RX6) (hX : ea_X ids) (ho1 : ea_ok ids a1 1) {k2 : Int32 → Int32 → eM → Option (eM)} (hk2 : ∀ (x2 : Int32) (x3 : Int32) (M : eM) (H : Heap) (locs : List Loc) (ls : Array Slot), k2 x2 x3 M = some res → ea_w E ids M s H locs → lv_has ls 7 [(0, .ref (E.1 72)), (1, .ref (E.1 a1)), (2, .int x2), (3, .int x3)] → W p l e (ea_rm 1 21) s m args below meth cd H locs 0 0 (MQ below (ea_Qv E ids res) args s 0 0 (ea_Ad E ids)) (F0 m 2 ls [])) : ∀ (x2 : Int32) (x3 : Int32) (M : eM) (H : Heap) (locs : List Loc) (ls : Array Slot), fX6_sense_115 k2 a1 x2 x3 M = some res → ea_w E ids M s H locs → lv_has ls 7 [(0, .ref (E.1 72)), (1, .ref (E.1 a1)), (2, .int x2), (3, .int x3)] → W p l e (ea_rm 1 21) s m args below meth cd H locs 0 0 (MQ below (ea_Qv E ids res) args s 0 0 (ea_Ad E ids)) (F0 m 115 ls []) := by
  intro x2 x3 M H locs ls hf  hw hl
  replace hf := (fX6_sense_115.eq_1 ..).symm.trans hf
  refine lv_iinc (v := x3 + (1 : Int32)) (lv' := [(3, .int (x3 + (1 : Int32))), (0, .ref (E.1 72)), (1, .ref (E.1 a1)), (2, .int x2)]) C.1 C.2.1 dX6_sense_115 hl (k := 3) rfl rfl (by decide) rfl (fun ls hl => ?_)
  refine lv_goto (tgt := 2) C.1 C.2.1 dX6_sense_118 (by decide) ?_
  exact hk2 _ _ _ _ _ _ hf hw (lv_sub hl [1, 2, 3, 0] rfl)
set_option maxHeartbeats 4000000 in
set_option maxRecDepth 20000 in
theorem wX6_sense_2 (C : ea_C p s m args meth cd cX6_sense 7 none RX6) (hX : ea_X ids) (ho1 : ea_ok ids a1 1) : ∀ (n : Nat) (x2 : Int32) (x3 : Int32) (M : eM) (H : Heap) (locs : List Loc) (ls : Array Slot), fX6_sense_2 a1 n x2 x3 M = some res → ea_w E ids M s H locs → lv_has ls 7 [(0, .ref (E.1 72)), (1, .ref (E.1 a1)), (2, .int x2), (3, .int x3)] → W p l e (ea_rm 1 21) s m args below meth cd H locs 0 0 (MQ below (ea_Qv E ids res) args s 0 0 (ea_Ad E ids)) (F0 m 2 ls []) := by
  intro n
  induction n with
  | zero => intro x2 x3 M H locs ls hf; cases hf
  | succ n ih =>
    intro x2 x3 M H locs ls hf  hw hl
    replace hf := (fX6_sense_2.eq_2 ..).symm.trans hf
    refine lv_iload_n C.1 C.2.1 dX6_sense_2 rfl (lv_at hl 3 rfl) ?_
    refine lv_iconst (v := 3) C.1 C.2.1 dX6_sense_3 (by decide) ?_
    refine lv_icmp_ge (tgt := 121) C.1 C.2.1 dX6_sense_4 (by decide) (fun hc1 => ?_) (fun hc1 => ?_)
    · replace hf := ea_if_t hc1 hf
      exact ea_vret C hw hf dX6_sense_121
    · replace hf := ea_if_f hc1 hf
      refine lv_aload_n C.1 C.2.1 dX6_sense_7 rfl (lv_at hl 0 rfl) ?_
      refine gf_X6_21 C hw (hX 72 6 rfl) dX6_sense_8 ?_
      refine W.eq (g2 := F0 m 11 ls [.ref (E.1 76)]) rfl ?_
      refine lv_iload_n C.1 C.2.1 dX6_sense_11 rfl (lv_at hl 3 rfl) ?_
      refine lv_iconst (v := 0) C.1 C.2.1 dX6_sense_12 (by decide) ?_
      obtain ⟨hc2, hf⟩ := ea_ck_s hf
      refine ea_iast C hw (show ea_ok ids 76 20 from ok_6_4 (hX 72 6 rfl)) hc2 dX6_sense_13 (fun H locs hw => ?_)
      refine lv_iconst (v := 0) C.1 C.2.1 dX6_sense_14 (by decide) ?_
      refine lv_istore (lv' := [(4, .int (0 : Int32)), (0, .ref (E.1 72)), (1, .ref (E.1 a1)), (2, .int x2), (3, .int x3)]) C.1 C.2.1 dX6_sense_15 hl (by decide) rfl (fun ls hl => ?_)
      exact wX6_sense_17 C hX ho1 (wX6_sense_115 C hX ho1 ih) ea_N _ _ _ _ _ _ _ hf hw (lv_sub hl [1, 2, 3, 4, 0] rfl)
set_option maxHeartbeats 4000000 in
set_option maxRecDepth 20000 in
theorem wX6_sense_0 (C : ea_C p s m args meth cd cX6_sense 7 none RX6) (hX : ea_X ids) (ho1 : ea_ok ids a1 1) : ∀ (x2 : Int32) (M : eM) (H : Heap) (locs : List Loc) (ls : Array Slot), fX6_sense_0 a1 x2 M = some res → ea_w E ids M s H locs → lv_has ls 7 [(0, .ref (E.1 72)), (1, .ref (E.1 a1)), (2, .int x2)] → W p l e (ea_rm 1 21) s m args below meth cd H locs 0 0 (MQ below (ea_Qv E ids res) args s 0 0 (ea_Ad E ids)) (F0 m 0 ls []) := by
  intro x2 M H locs ls hf  hw hl
  replace hf := (fX6_sense_0.eq_1 ..).symm.trans hf
  refine lv_iconst (v := 0) C.1 C.2.1 dX6_sense_0 (by decide) ?_
  refine lv_istore_n (lv' := [(3, .int (0 : Int32)), (0, .ref (E.1 72)), (1, .ref (E.1 a1)), (2, .int x2)]) C.1 C.2.1 dX6_sense_1 rfl hl (by decide) rfl (fun ls hl => ?_)
  exact wX6_sense_2 C hX ho1 ea_N _ _ _ _ _ _ hf hw (lv_sub hl [1, 2, 3, 0] rfl)
set_option maxHeartbeats 4000000 in
set_option maxRecDepth 20000 in
theorem mX6_sense {l : Launch} {E : eE} {ids : List Nat} (hX : ea_X ids) {a1 : Nat} {x2 : Int32} (ho1 : ea_ok ids a1 1) {M : eM} {res : eM} (hf : fX6_sense a1 x2 M = some res) : ea_Mv l yX6_sense cX6_sense 7 1 21 E ids [.ref (E.1 72), .ref (E.1 a1), .int x2] M res := by
  refine ea_gov (by decide) (Nat.le_of_ble_eq_true rfl) wc_X6_sense ?_
  intro p e s m below meth cd ls C hw hl
  exact wX6_sense_0 C hX ho1 _ _ _ _ _ hf hw hl
end SX6_sense

def fX6_weigh_27 (k93 : Int32 → Int32 → Int32 → Int32 → eM → Option (eM)) : Nat → Int32 → Int32 → Int32 → Int32 → Int32 → Int32 → Int32 → Int32 → eM → Option (eM)
  | 0, _, _, _, _, _, _, _, _, _ => none
  | n + 1, x1, x2, x3, x4, x5, x6, x7, x8, M => if (3 : Int32) ≤ x8 then (k93 x1 x2 x3 x7 M) else (ea_ck (ea_ix (x4 + x8) (ea_len 77)) (ea_ck (ea_ix (x5 + x8) (ea_len 77)) (ea_ck (ea_ix (x6 + x8) (ea_len 77)) (ea_lt (((M.1 77 (x4 + x8).toNatClampNeg) + (M.1 77 (x5 + x8).toNatClampNeg)) + (M.1 77 (x6 + x8).toNatClampNeg)) (fun y5 => ea_ck (ea_ix x8 (ea_len 76)) (ea_lt (ea_max x7 (ea_abs (y5 - (M.1 76 x8.toNatClampNeg)))) (fun y8 => fX6_weigh_27 k93 n x1 x2 x3 x4 x5 x6 y8 (x8 + (1 : Int32)) M)))))))
def fX6_weigh_127 (x1 : Int32) (x2 : Int32) (x3 : Int32) (x7 : Int32) (x8 : Int32) (M : eM) : Option (eM) := some (ea_pI (ea_pI (ea_pI (ea_pI (ea_pI M 72 3 x7) 72 6 x8) 75 ((0 : Int32).toNatClampNeg) (x1 * (10 : Int32))) 75 ((1 : Int32).toNatClampNeg) (x2 * (10 : Int32))) 75 ((2 : Int32).toNatClampNeg) (x3 * (10 : Int32)))
def fX6_weigh_93 (x1 : Int32) (x2 : Int32) (x3 : Int32) (x7 : Int32) (M : eM) : Option (eM) := if x7 < (M.1 72 3) then (fX6_weigh_127 x1 x2 x3 x7 ((x1 + x2) + x3) M) else (if x7 = (M.1 72 3) then (if (M.1 72 6) ≤ ((x1 + x2) + x3) then (some M) else (fX6_weigh_127 x1 x2 x3 x7 ((x1 + x2) + x3) M)) else (some M))
def fX6_weigh_0 (x1 : Int32) (x2 : Int32) (x3 : Int32) (M : eM) : Option (eM) := ea_ci (fX6_placeOf (0 : Int32) x1 M) (fun r2 M3 => ea_ci (fX6_placeOf (1 : Int32) x2 M3) (fun r5 M6 => ea_ci (fX6_placeOf (2 : Int32) x3 M6) (fun r8 M9 => fX6_weigh_27 (fX6_weigh_93) ea_N x1 x2 x3 r2 r5 r8 (0 : Int32) (0 : Int32) M9)))
def fX6_weigh (x1 : Int32) (x2 : Int32) (x3 : Int32) (M : eM) : Option (eM) := fX6_weigh_0 x1 x2 x3 M
section SX6_weigh
variable {p : Program} {l : Launch} {e : Env} {s : State} {m : MethodId} {args : Array Value} {below : List Frame} {meth : Method} {cd : Code} {E : eE} {ids : List Nat} {res : eM}
set_option maxHeartbeats 4000000 in
set_option maxRecDepth 20000 in
theorem wX6_weigh_27 (C : ea_C p s m args meth cd cX6_weigh 10 none RX6) (hX : ea_X ids) {k93 : Int32 → Int32 → Int32 → Int32 → eM → Option (eM)} (hk93 : ∀ (x1 : Int32) (x2 : Int32) (x3 : Int32) (x7 : Int32) (M : eM) (H : Heap) (locs : List Loc) (ls : Array Slot), k93 x1 x2 x3 x7 M = some res → ea_w E ids M s H locs → lv_has ls 10 [(0, .ref (E.1 72)), (1, .int x1), (2, .int x2), (3, .int x3), (7, .int x7)] → W p l e (ea_rm 1 21) s m args below meth cd H locs 0 0 (MQ below (ea_Qv E ids res) args s 0 0 (ea_Ad E ids)) (F0 m 93 ls [])) : ∀ (n : Nat) (x1 : Int32) (x2 : Int32) (x3 : Int32) (x4 : Int32) (x5 : Int32) (x6 : Int32) (x7 : Int32) (x8 : Int32) (M : eM) (H : Heap) (locs : List Loc) (ls : Array Slot), fX6_weigh_27 k93 n x1 x2 x3 x4 x5 x6 x7 x8 M = some res → ea_w E ids M s H locs → lv_has ls 10 [(0, .ref (E.1 72)), (1, .int x1), (2, .int x2), (3, .int x3), (4, .int x4), (5, .int x5), (6, .int x6), (7, .int x7), (8, .int x8)] → W p l e (ea_rm 1 21) s m args below meth cd H locs 0 0 (MQ below (ea_Qv E ids res) args s 0 0 (ea_Ad E ids)) (F0 m 27 ls []) := by
  intro n
  induction n with
  | zero => intro x1 x2 x3 x4 x5 x6 x7 x8 M H locs ls hf; cases hf
  | succ n ih =>
    intro x1 x2 x3 x4 x5 x6 x7 x8 M H locs ls hf  hw hl
    replace hf := (fX6_weigh_27.eq_2 ..).symm.trans hf
    refine lv_iload C.1 C.2.1 dX6_weigh_27 (lv_at hl 8 rfl) ?_
    refine lv_iconst (v := 3) C.1 C.2.1 dX6_weigh_29 (by decide) ?_
    refine lv_icmp_ge (tgt := 93) C.1 C.2.1 dX6_weigh_30 (by decide) (fun hc1 => ?_) (fun hc1 => ?_)
    · replace hf := ea_if_t hc1 hf
      exact hk93 _ _ _ _ _ _ _ _ hf hw (lv_sub hl [0, 1, 2, 3, 7] rfl)
    · replace hf := ea_if_f hc1 hf
      refine lv_aload_n C.1 C.2.1 dX6_weigh_33 rfl (lv_at hl 0 rfl) ?_
      refine gf_X6_24 C hw (hX 72 6 rfl) dX6_weigh_34 ?_
      refine W.eq (g2 := F0 m 37 ls [.ref (E.1 77)]) rfl ?_
      refine lv_iload C.1 C.2.1 dX6_weigh_37 (lv_at hl 4 rfl) ?_
      refine lv_iload C.1 C.2.1 dX6_weigh_39 (lv_at hl 8 rfl) ?_
      refine lv_iadd C.1 C.2.1 dX6_weigh_41 ?_
      obtain ⟨hc2, hf⟩ := ea_ck_s hf
      refine ea_iald C hw (show ea_ok ids 77 20 from ok_6_5 (hX 72 6 rfl)) hc2 dX6_weigh_42 ?_
      refine lv_aload_n C.1 C.2.1 dX6_weigh_43 rfl (lv_at hl 0 rfl) ?_
      refine gf_X6_24 C hw (hX 72 6 rfl) dX6_weigh_44 ?_
      refine W.eq (g2 := F0 m 47 ls [.ref (E.1 77), .int (M.1 77 (x4 + x8).toNatClampNeg)]) rfl ?_
      refine lv_iload C.1 C.2.1 dX6_weigh_47 (lv_at hl 5 rfl) ?_
      refine lv_iload C.1 C.2.1 dX6_weigh_49 (lv_at hl 8 rfl) ?_
      refine lv_iadd C.1 C.2.1 dX6_weigh_51 ?_
      obtain ⟨hc3, hf⟩ := ea_ck_s hf
      refine ea_iald C hw (show ea_ok ids 77 20 from ok_6_5 (hX 72 6 rfl)) hc3 dX6_weigh_52 ?_
      refine lv_iadd C.1 C.2.1 dX6_weigh_53 ?_
      refine lv_aload_n C.1 C.2.1 dX6_weigh_54 rfl (lv_at hl 0 rfl) ?_
      refine gf_X6_24 C hw (hX 72 6 rfl) dX6_weigh_55 ?_
      refine W.eq (g2 := F0 m 58 ls [.ref (E.1 77), .int ((M.1 77 (x4 + x8).toNatClampNeg) + (M.1 77 (x5 + x8).toNatClampNeg))]) rfl ?_
      refine lv_iload C.1 C.2.1 dX6_weigh_58 (lv_at hl 6 rfl) ?_
      refine lv_iload C.1 C.2.1 dX6_weigh_60 (lv_at hl 8 rfl) ?_
      refine lv_iadd C.1 C.2.1 dX6_weigh_62 ?_
      obtain ⟨hc4, hf⟩ := ea_ck_s hf
      refine ea_iald C hw (show ea_ok ids 77 20 from ok_6_5 (hX 72 6 rfl)) hc4 dX6_weigh_63 ?_
      refine lv_iadd C.1 C.2.1 dX6_weigh_64 ?_
      obtain ⟨y5, ey6, hf⟩ := ea_lt_s hf
      refine ea_topi ey6 ?_
      refine lv_istore (lv' := [(9, .int y5), (0, .ref (E.1 72)), (1, .int x1), (2, .int x2), (3, .int x3), (4, .int x4), (5, .int x5), (6, .int x6), (7, .int x7), (8, .int x8)]) C.1 C.2.1 dX6_weigh_65 hl (by decide) rfl (fun ls hl => ?_)
      refine lv_iload C.1 C.2.1 dX6_weigh_67 (lv_at hl 8 rfl) ?_
      refine lv_iload C.1 C.2.1 dX6_weigh_69 (lv_at hl 0 rfl) ?_
      refine lv_aload_n C.1 C.2.1 dX6_weigh_71 rfl (lv_at hl 1 rfl) ?_
      refine gf_X6_21 C hw (hX 72 6 rfl) dX6_weigh_72 ?_
      refine W.eq (g2 := F0 m 75 ls [.ref (E.1 76), .int y5, .int x7]) rfl ?_
      refine lv_iload C.1 C.2.1 dX6_weigh_75 (lv_at hl 9 rfl) ?_
      obtain ⟨hc7, hf⟩ := ea_ck_s hf
      refine ea_iald C hw (show ea_ok ids 76 20 from ok_6_4 (hX 72 6 rfl)) hc7 dX6_weigh_77 ?_
      refine lv_isub C.1 C.2.1 dX6_weigh_78 ?_
      refine mm_X6_59 C hl.1 (by decide) (Nat.le_of_ble_eq_true rfl) ⟨Nat.le_refl _, Nat.le_refl _⟩ dX6_weigh_79 ?_
      refine mm_X6_65 C hl.1 (by decide) (Nat.le_of_ble_eq_true rfl) ⟨Nat.le_refl _, Nat.le_refl _⟩ dX6_weigh_82 ?_
      obtain ⟨y8, ey9, hf⟩ := ea_lt_s hf
      refine ea_topi ey9 ?_
      refine lv_istore (lv' := [(7, .int y8), (9, .int y5), (0, .ref (E.1 72)), (1, .int x1), (2, .int x2), (3, .int x3), (4, .int x4), (5, .int x5), (6, .int x6), (8, .int x8)]) C.1 C.2.1 dX6_weigh_85 hl (by decide) rfl (fun ls hl => ?_)
      refine lv_iinc (v := x8 + (1 : Int32)) (lv' := [(8, .int (x8 + (1 : Int32))), (7, .int y8), (9, .int y5), (0, .ref (E.1 72)), (1, .int x1), (2, .int x2), (3, .int x3), (4, .int x4), (5, .int x5), (6, .int x6)]) C.1 C.2.1 dX6_weigh_87 hl (k := 9) rfl rfl (by decide) rfl (fun ls hl => ?_)
      refine lv_goto (tgt := 27) C.1 C.2.1 dX6_weigh_90 (by decide) ?_
      exact ih _ _ _ _ _ _ _ _ _ _ _ _ hf hw (lv_sub hl [3, 4, 5, 6, 7, 8, 9, 1, 0] rfl)
set_option maxHeartbeats 4000000 in
set_option maxRecDepth 20000 in
theorem wX6_weigh_127 (C : ea_C p s m args meth cd cX6_weigh 10 none RX6) (hX : ea_X ids) : ∀ (x1 : Int32) (x2 : Int32) (x3 : Int32) (x7 : Int32) (x8 : Int32) (M : eM) (H : Heap) (locs : List Loc) (ls : Array Slot), fX6_weigh_127 x1 x2 x3 x7 x8 M = some res → ea_w E ids M s H locs → lv_has ls 10 [(0, .ref (E.1 72)), (1, .int x1), (2, .int x2), (3, .int x3), (7, .int x7), (8, .int x8)] → W p l e (ea_rm 1 21) s m args below meth cd H locs 0 0 (MQ below (ea_Qv E ids res) args s 0 0 (ea_Ad E ids)) (F0 m 127 ls []) := by
  intro x1 x2 x3 x7 x8 M H locs ls hf  hw hl
  replace hf := (fX6_weigh_127.eq_1 ..).symm.trans hf
  refine lv_aload_n C.1 C.2.1 dX6_weigh_127 rfl (lv_at hl 0 rfl) ?_
  refine lv_iload C.1 C.2.1 dX6_weigh_128 (lv_at hl 4 rfl) ?_
  refine pu_X6_32 C hw (hX 72 6 rfl) dX6_weigh_130 (fun H locs hw => ?_)
  refine lv_aload_n C.1 C.2.1 dX6_weigh_133 rfl (lv_at hl 0 rfl) ?_
  refine lv_iload C.1 C.2.1 dX6_weigh_134 (lv_at hl 5 rfl) ?_
  refine pu_X6_36 C hw (hX 72 6 rfl) dX6_weigh_136 (fun H locs hw => ?_)
  refine lv_aload_n C.1 C.2.1 dX6_weigh_139 rfl (lv_at hl 0 rfl) ?_
  refine gf_X6_18 C hw (hX 72 6 rfl) dX6_weigh_140 ?_
  refine W.eq (g2 := F0 m 143 ls [.ref (E.1 75)]) rfl ?_
  refine lv_iconst (v := 0) C.1 C.2.1 dX6_weigh_143 (by decide) ?_
  refine lv_iload_n C.1 C.2.1 dX6_weigh_144 rfl (lv_at hl 1 rfl) ?_
  refine lv_bipush (v := 10) C.1 C.2.1 dX6_weigh_145 (by decide) ?_
  refine lv_imul C.1 C.2.1 dX6_weigh_147 ?_
  refine ea_iast C hw (show ea_ok ids 75 20 from ok_6_2 (hX 72 6 rfl)) (by decide) dX6_weigh_148 (fun H locs hw => ?_)
  refine lv_aload_n C.1 C.2.1 dX6_weigh_149 rfl (lv_at hl 0 rfl) ?_
  refine gf_X6_18 C hw (hX 72 6 rfl) dX6_weigh_150 ?_
  refine W.eq (g2 := F0 m 153 ls [.ref (E.1 75)]) rfl ?_
  refine lv_iconst (v := 1) C.1 C.2.1 dX6_weigh_153 (by decide) ?_
  refine lv_iload_n C.1 C.2.1 dX6_weigh_154 rfl (lv_at hl 2 rfl) ?_
  refine lv_bipush (v := 10) C.1 C.2.1 dX6_weigh_155 (by decide) ?_
  refine lv_imul C.1 C.2.1 dX6_weigh_157 ?_
  refine ea_iast C hw (show ea_ok ids 75 20 from ok_6_2 (hX 72 6 rfl)) (by decide) dX6_weigh_158 (fun H locs hw => ?_)
  refine lv_aload_n C.1 C.2.1 dX6_weigh_159 rfl (lv_at hl 0 rfl) ?_
  refine gf_X6_18 C hw (hX 72 6 rfl) dX6_weigh_160 ?_
  refine W.eq (g2 := F0 m 163 ls [.ref (E.1 75)]) rfl ?_
  refine lv_iconst (v := 2) C.1 C.2.1 dX6_weigh_163 (by decide) ?_
  refine lv_iload_n C.1 C.2.1 dX6_weigh_164 rfl (lv_at hl 3 rfl) ?_
  refine lv_bipush (v := 10) C.1 C.2.1 dX6_weigh_165 (by decide) ?_
  refine lv_imul C.1 C.2.1 dX6_weigh_167 ?_
  refine ea_iast C hw (show ea_ok ids 75 20 from ok_6_2 (hX 72 6 rfl)) (by decide) dX6_weigh_168 (fun H locs hw => ?_)
  exact ea_vret C hw hf dX6_weigh_169
set_option maxHeartbeats 4000000 in
set_option maxRecDepth 20000 in
theorem wX6_weigh_93 (C : ea_C p s m args meth cd cX6_weigh 10 none RX6) (hX : ea_X ids) : ∀ (x1 : Int32) (x2 : Int32) (x3 : Int32) (x7 : Int32) (M : eM) (H : Heap) (locs : List Loc) (ls : Array Slot), fX6_weigh_93 x1 x2 x3 x7 M = some res → ea_w E ids M s H locs → lv_has ls 10 [(0, .ref (E.1 72)), (1, .int x1), (2, .int x2), (3, .int x3), (7, .int x7)] → W p l e (ea_rm 1 21) s m args below meth cd H locs 0 0 (MQ below (ea_Qv E ids res) args s 0 0 (ea_Ad E ids)) (F0 m 93 ls []) := by
  intro x1 x2 x3 x7 M H locs ls hf  hw hl
  replace hf := (fX6_weigh_93.eq_1 ..).symm.trans hf
  refine lv_iload_n C.1 C.2.1 dX6_weigh_93 rfl (lv_at hl 1 rfl) ?_
  refine lv_iload_n C.1 C.2.1 dX6_weigh_94 rfl (lv_at hl 2 rfl) ?_
  refine lv_iadd C.1 C.2.1 dX6_weigh_95 ?_
  refine lv_iload_n C.1 C.2.1 dX6_weigh_96 rfl (lv_at hl 3 rfl) ?_
  refine lv_iadd C.1 C.2.1 dX6_weigh_97 ?_
  refine lv_istore (lv' := [(8, .int ((x1 + x2) + x3)), (0, .ref (E.1 72)), (1, .int x1), (2, .int x2), (3, .int x3), (7, .int x7)]) C.1 C.2.1 dX6_weigh_98 hl (by decide) rfl (fun ls hl => ?_)
  refine lv_iload C.1 C.2.1 dX6_weigh_100 (lv_at hl 5 rfl) ?_
  refine lv_aload_n C.1 C.2.1 dX6_weigh_102 rfl (lv_at hl 1 rfl) ?_
  refine gf_X6_32 C hw (hX 72 6 rfl) dX6_weigh_103 ?_
  refine lv_icmp_lt (tgt := 127) C.1 C.2.1 dX6_weigh_106 (by decide) (fun hc1 => ?_) (fun hc1 => ?_)
  · replace hf := ea_if_t hc1 hf
    exact wX6_weigh_127 C hX _ _ _ _ _ _ _ _ _ hf hw (lv_sub hl [1, 2, 3, 4, 5, 0] rfl)
  · replace hf := ea_if_f hc1 hf
    refine lv_iload C.1 C.2.1 dX6_weigh_109 (lv_at hl 5 rfl) ?_
    refine lv_aload_n C.1 C.2.1 dX6_weigh_111 rfl (lv_at hl 1 rfl) ?_
    refine gf_X6_32 C hw (hX 72 6 rfl) dX6_weigh_112 ?_
    refine lv_icmp_ne (tgt := 169) C.1 C.2.1 dX6_weigh_115 (by decide) (fun hc2 => ?_) (fun hc2 => ?_)
    · replace hf := ea_if_f hc2 hf
      exact ea_vret C hw hf dX6_weigh_169
    · replace hf := ea_if_t hc2 hf
      refine lv_iload C.1 C.2.1 dX6_weigh_118 (lv_at hl 0 rfl) ?_
      refine lv_aload_n C.1 C.2.1 dX6_weigh_120 rfl (lv_at hl 1 rfl) ?_
      refine gf_X6_36 C hw (hX 72 6 rfl) dX6_weigh_121 ?_
      refine lv_icmp_ge (tgt := 169) C.1 C.2.1 dX6_weigh_124 (by decide) (fun hc3 => ?_) (fun hc3 => ?_)
      · replace hf := ea_if_t hc3 hf
        exact ea_vret C hw hf dX6_weigh_169
      · replace hf := ea_if_f hc3 hf
        exact wX6_weigh_127 C hX _ _ _ _ _ _ _ _ _ hf hw (lv_sub hl [1, 2, 3, 4, 5, 0] rfl)
set_option maxHeartbeats 4000000 in
set_option maxRecDepth 20000 in
theorem wX6_weigh_0 (C : ea_C p s m args meth cd cX6_weigh 10 none RX6) (hX : ea_X ids) : ∀ (x1 : Int32) (x2 : Int32) (x3 : Int32) (M : eM) (H : Heap) (locs : List Loc) (ls : Array Slot), fX6_weigh_0 x1 x2 x3 M = some res → ea_w E ids M s H locs → lv_has ls 10 [(0, .ref (E.1 72)), (1, .int x1), (2, .int x2), (3, .int x3)] → W p l e (ea_rm 1 21) s m args below meth cd H locs 0 0 (MQ below (ea_Qv E ids res) args s 0 0 (ea_Ad E ids)) (F0 m 0 ls []) := by
  intro x1 x2 x3 M H locs ls hf  hw hl
  replace hf := (fX6_weigh_0.eq_1 ..).symm.trans hf
  refine lv_iconst (v := 0) C.1 C.2.1 dX6_weigh_0 (by decide) ?_
  refine lv_iload_n C.1 C.2.1 dX6_weigh_1 rfl (lv_at hl 1 rfl) ?_
  obtain ⟨r2, M3, he1, hf⟩ := ea_ci_s hf
  refine ea_runi2 hw (cl_X6_55 C hw (As := [.int (0 : Int32), .int x1]) (rest := []) (mX6_placeOf (l := l) (E := E) (ids := ids) hX he1) (by decide) rfl hl.1 rfl (Nat.le_of_ble_eq_true rfl) dX6_weigh_2 ⟨Nat.le_refl _, Nat.le_refl _⟩) (fun H locs hw => ?_)
  refine lv_istore (lv' := [(4, .int r2), (0, .ref (E.1 72)), (1, .int x1), (2, .int x2), (3, .int x3)]) C.1 C.2.1 dX6_weigh_5 hl (by decide) rfl (fun ls hl => ?_)
  refine lv_iconst (v := 1) C.1 C.2.1 dX6_weigh_7 (by decide) ?_
  refine lv_iload_n C.1 C.2.1 dX6_weigh_8 rfl (lv_at hl 3 rfl) ?_
  obtain ⟨r5, M6, he4, hf⟩ := ea_ci_s hf
  refine ea_runi2 hw (cl_X6_55 C hw (As := [.int (1 : Int32), .int x2]) (rest := []) (mX6_placeOf (l := l) (E := E) (ids := ids) hX he4) (by decide) rfl hl.1 rfl (Nat.le_of_ble_eq_true rfl) dX6_weigh_9 ⟨Nat.le_refl _, Nat.le_refl _⟩) (fun H locs hw => ?_)
  refine lv_istore (lv' := [(5, .int r5), (4, .int r2), (0, .ref (E.1 72)), (1, .int x1), (2, .int x2), (3, .int x3)]) C.1 C.2.1 dX6_weigh_12 hl (by decide) rfl (fun ls hl => ?_)
  refine lv_iconst (v := 2) C.1 C.2.1 dX6_weigh_14 (by decide) ?_
  refine lv_iload_n C.1 C.2.1 dX6_weigh_15 rfl (lv_at hl 5 rfl) ?_
  obtain ⟨r8, M9, he7, hf⟩ := ea_ci_s hf
  refine ea_runi2 hw (cl_X6_55 C hw (As := [.int (2 : Int32), .int x3]) (rest := []) (mX6_placeOf (l := l) (E := E) (ids := ids) hX he7) (by decide) rfl hl.1 rfl (Nat.le_of_ble_eq_true rfl) dX6_weigh_16 ⟨Nat.le_refl _, Nat.le_refl _⟩) (fun H locs hw => ?_)
  refine lv_istore (lv' := [(6, .int r8), (5, .int r5), (4, .int r2), (0, .ref (E.1 72)), (1, .int x1), (2, .int x2), (3, .int x3)]) C.1 C.2.1 dX6_weigh_19 hl (by decide) rfl (fun ls hl => ?_)
  refine lv_iconst (v := 0) C.1 C.2.1 dX6_weigh_21 (by decide) ?_
  refine lv_istore (lv' := [(7, .int (0 : Int32)), (6, .int r8), (5, .int r5), (4, .int r2), (0, .ref (E.1 72)), (1, .int x1), (2, .int x2), (3, .int x3)]) C.1 C.2.1 dX6_weigh_22 hl (by decide) rfl (fun ls hl => ?_)
  refine lv_iconst (v := 0) C.1 C.2.1 dX6_weigh_24 (by decide) ?_
  refine lv_istore (lv' := [(8, .int (0 : Int32)), (7, .int (0 : Int32)), (6, .int r8), (5, .int r5), (4, .int r2), (0, .ref (E.1 72)), (1, .int x1), (2, .int x2), (3, .int x3)]) C.1 C.2.1 dX6_weigh_25 hl (by decide) rfl (fun ls hl => ?_)
  exact wX6_weigh_27 C hX (wX6_weigh_93 C hX) ea_N _ _ _ _ _ _ _ _ _ _ _ _ hf hw (lv_sub hl [5, 6, 7, 8, 4, 3, 2, 1, 0] rfl)
set_option maxHeartbeats 4000000 in
set_option maxRecDepth 20000 in
theorem mX6_weigh {l : Launch} {E : eE} {ids : List Nat} (hX : ea_X ids) {x1 : Int32} {x2 : Int32} {x3 : Int32} {M : eM} {res : eM} (hf : fX6_weigh x1 x2 x3 M = some res) : ea_Mv l yX6_weigh cX6_weigh 10 1 21 E ids [.ref (E.1 72), .int x1, .int x2, .int x3] M res := by
  refine ea_gov (by decide) (Nat.le_of_ble_eq_true rfl) wc_X6_weigh ?_
  intro p e s m below meth cd ls C hw hl
  exact wX6_weigh_0 C hX _ _ _ _ _ _ _ hf hw hl
end SX6_weigh

def fX6_search_99 (k129 : Int32 → Int32 → Int32 → Int32 → Int32 → eM → Option (eM)) (a1 : Nat) : Nat → Int32 → Int32 → Int32 → Int32 → Int32 → Int32 → eM → Option (eM)
  | 0, _, _, _, _, _, _, _ => none
  | n + 1, x3, x4, x5, x6, x7, x8, M => if x5 < x8 then (k129 x3 x4 x5 x6 x7 M) else (if (21 : Int32) ≤ x8 then (k129 x3 x4 x5 x6 x7 M) else (ea_cv (fX6_weigh x6 x7 x8 M) (fun M4 => fX6_search_99 k129 a1 n x3 x4 x5 x6 x7 (x8 + (1 : Int32)) M4)))
def fX6_search_129 (k69 : Int32 → Int32 → Int32 → Int32 → Int32 → eM → Option (eM)) (a1 : Nat) (x3 : Int32) (x4 : Int32) (x5 : Int32) (x6 : Int32) (x7 : Int32) (M : eM) : Option (eM) := k69 x3 x4 x5 x6 (x7 + (1 : Int32)) M
def fX6_search_69 (k135 : Int32 → Int32 → Int32 → Int32 → eM → Option (eM)) (a1 : Nat) : Nat → Int32 → Int32 → Int32 → Int32 → Int32 → eM → Option (eM)
  | 0, _, _, _, _, _, _ => none
  | n + 1, x3, x4, x5, x6, x7, M => if x4 < x7 then (k135 x3 x4 x5 x6 M) else (if (21 : Int32) ≤ x7 then (k135 x3 x4 x5 x6 M) else (ea_ci (fX6_mayDo x6 x7 x5 M) (fun r4 M5 => if r4 = 0 then (fX6_search_129 (fX6_search_69 k135 a1 n) a1 x3 x4 x5 x6 x7 M5) else (fX6_search_99 (fX6_search_129 (fX6_search_69 k135 a1 n) a1) a1 ea_N x3 x4 x5 x6 x7 (0 : Int32) M5))))
def fX6_search_135 (k53 : Int32 → Int32 → Int32 → Int32 → eM → Option (eM)) (a1 : Nat) (x3 : Int32) (x4 : Int32) (x5 : Int32) (x6 : Int32) (M : eM) : Option (eM) := k53 x3 x4 x5 (x6 + (1 : Int32)) M
def fX6_search_53 (a1 : Nat) : Nat → Int32 → Int32 → Int32 → Int32 → eM → Option (eM)
  | 0, _, _, _, _, _ => none
  | n + 1, x3, x4, x5, x6, M => if x3 < x6 then (some M) else (if (21 : Int32) ≤ x6 then (some M) else (fX6_search_69 (fX6_search_135 (fX6_search_53 a1 n) a1) a1 ea_N x3 x4 x5 x6 (0 : Int32) M))
def fX6_search_0 (a1 : Nat) (x2 : Int32) (M : eM) : Option (eM) := ea_cv (fX6_sense a1 x2 M) (fun M2 => ea_ck (ea_ix (0 : Int32) (ea_len (a1 + 1))) (ea_lt (((ea_pI (ea_pI M2 72 3 (1000000 : Int32)) 72 6 (1000000 : Int32)).1 (a1 + 1) (0 : Int32).toNatClampNeg) / (10 : Int32)) (fun y4 => ea_ck (ea_ix (1 : Int32) (ea_len (a1 + 1))) (ea_lt (((ea_pI (ea_pI M2 72 3 (1000000 : Int32)) 72 6 (1000000 : Int32)).1 (a1 + 1) (1 : Int32).toNatClampNeg) / (10 : Int32)) (fun y7 => ea_ck (ea_ix (2 : Int32) (ea_len (a1 + 1))) (ea_lt (((ea_pI (ea_pI M2 72 3 (1000000 : Int32)) 72 6 (1000000 : Int32)).1 (a1 + 1) (2 : Int32).toNatClampNeg) / (10 : Int32)) (fun y10 => fX6_search_53 a1 ea_N y4 y7 y10 (0 : Int32) (ea_pI (ea_pI M2 72 3 (1000000 : Int32)) 72 6 (1000000 : Int32)))))))))
def fX6_search (a1 : Nat) (x2 : Int32) (M : eM) : Option (eM) := fX6_search_0 a1 x2 M
section SX6_search
variable {p : Program} {l : Launch} {e : Env} {s : State} {m : MethodId} {args : Array Value} {below : List Frame} {meth : Method} {cd : Code} {E : eE} {ids : List Nat} {res : eM} {a1 : Nat}
set_option maxHeartbeats 4000000 in
set_option maxRecDepth 20000 in
theorem wX6_search_99 (C : ea_C p s m args meth cd cX6_search 9 none RX6) (hX : ea_X ids) (ho1 : ea_ok ids a1 1) {k129 : Int32 → Int32 → Int32 → Int32 → Int32 → eM → Option (eM)} (hk129 : ∀ (x3 : Int32) (x4 : Int32) (x5 : Int32) (x6 : Int32) (x7 : Int32) (M : eM) (H : Heap) (locs : List Loc) (ls : Array Slot), k129 x3 x4 x5 x6 x7 M = some res → ea_w E ids M s H locs → lv_has ls 9 [(0, .ref (E.1 72)), (3, .int x3), (4, .int x4), (5, .int x5), (6, .int x6), (7, .int x7)] → W p l e (ea_rm 2 50) s m args below meth cd H locs 0 0 (MQ below (ea_Qv E ids res) args s 0 0 (ea_Ad E ids)) (F0 m 129 ls [])) : ∀ (n : Nat) (x3 : Int32) (x4 : Int32) (x5 : Int32) (x6 : Int32) (x7 : Int32) (x8 : Int32) (M : eM) (H : Heap) (locs : List Loc) (ls : Array Slot), fX6_search_99 k129 a1 n x3 x4 x5 x6 x7 x8 M = some res → ea_w E ids M s H locs → lv_has ls 9 [(0, .ref (E.1 72)), (3, .int x3), (4, .int x4), (5, .int x5), (6, .int x6), (7, .int x7), (8, .int x8)] → W p l e (ea_rm 2 50) s m args below meth cd H locs 0 0 (MQ below (ea_Qv E ids res) args s 0 0 (ea_Ad E ids)) (F0 m 99 ls []) := by
  intro n
  induction n with
  | zero => intro x3 x4 x5 x6 x7 x8 M H locs ls hf; cases hf
  | succ n ih =>
    intro x3 x4 x5 x6 x7 x8 M H locs ls hf  hw hl
    replace hf := (fX6_search_99.eq_2 ..).symm.trans hf
    refine lv_iload C.1 C.2.1 dX6_search_99 (lv_at hl 6 rfl) ?_
    refine lv_iload C.1 C.2.1 dX6_search_101 (lv_at hl 3 rfl) ?_
    refine lv_icmp_gt (tgt := 129) C.1 C.2.1 dX6_search_103 (by decide) (fun hc1 => ?_) (fun hc1 => ?_)
    · replace hf := ea_if_t hc1 hf
      exact hk129 _ _ _ _ _ _ _ _ _ hf hw (lv_sub hl [0, 1, 2, 3, 4, 5] rfl)
    · replace hf := ea_if_f hc1 hf
      refine lv_iload C.1 C.2.1 dX6_search_106 (lv_at hl 6 rfl) ?_
      refine lv_bipush (v := 21) C.1 C.2.1 dX6_search_108 (by decide) ?_
      refine lv_icmp_ge (tgt := 129) C.1 C.2.1 dX6_search_110 (by decide) (fun hc2 => ?_) (fun hc2 => ?_)
      · replace hf := ea_if_t hc2 hf
        exact hk129 _ _ _ _ _ _ _ _ _ hf hw (lv_sub hl [0, 1, 2, 3, 4, 5] rfl)
      · replace hf := ea_if_f hc2 hf
        refine lv_aload_n C.1 C.2.1 dX6_search_113 rfl (lv_at hl 0 rfl) ?_
        refine lv_iload C.1 C.2.1 dX6_search_114 (lv_at hl 4 rfl) ?_
        refine lv_iload C.1 C.2.1 dX6_search_116 (lv_at hl 5 rfl) ?_
        refine lv_iload C.1 C.2.1 dX6_search_118 (lv_at hl 6 rfl) ?_
        obtain ⟨M4, he3, hf⟩ := ea_cv_s hf
        refine ea_runv hw (cl_X6_48 C hw (hX 72 6 rfl) (As := [.int x6, .int x7, .int x8]) (rest := []) (mX6_weigh (l := l) (E := E) (ids := ids) hX he3) (by decide) rfl hl.1 rfl (Nat.le_of_ble_eq_true rfl) dX6_search_120 ⟨Nat.le_refl _, Nat.le_refl _⟩) (fun H locs hw => ?_)
        refine lv_iinc (v := x8 + (1 : Int32)) (lv' := [(8, .int (x8 + (1 : Int32))), (0, .ref (E.1 72)), (3, .int x3), (4, .int x4), (5, .int x5), (6, .int x6), (7, .int x7)]) C.1 C.2.1 dX6_search_123 hl (k := 6) rfl rfl (by decide) rfl (fun ls hl => ?_)
        refine lv_goto (tgt := 99) C.1 C.2.1 dX6_search_126 (by decide) ?_
        exact ih _ _ _ _ _ _ _ _ _ _ hf hw (lv_sub hl [1, 2, 3, 4, 5, 6, 0] rfl)
set_option maxHeartbeats 4000000 in
set_option maxRecDepth 20000 in
theorem wX6_search_129 (C : ea_C p s m args meth cd cX6_search 9 none RX6) (hX : ea_X ids) (ho1 : ea_ok ids a1 1) {k69 : Int32 → Int32 → Int32 → Int32 → Int32 → eM → Option (eM)} (hk69 : ∀ (x3 : Int32) (x4 : Int32) (x5 : Int32) (x6 : Int32) (x7 : Int32) (M : eM) (H : Heap) (locs : List Loc) (ls : Array Slot), k69 x3 x4 x5 x6 x7 M = some res → ea_w E ids M s H locs → lv_has ls 9 [(0, .ref (E.1 72)), (3, .int x3), (4, .int x4), (5, .int x5), (6, .int x6), (7, .int x7)] → W p l e (ea_rm 2 50) s m args below meth cd H locs 0 0 (MQ below (ea_Qv E ids res) args s 0 0 (ea_Ad E ids)) (F0 m 69 ls [])) : ∀ (x3 : Int32) (x4 : Int32) (x5 : Int32) (x6 : Int32) (x7 : Int32) (M : eM) (H : Heap) (locs : List Loc) (ls : Array Slot), fX6_search_129 k69 a1 x3 x4 x5 x6 x7 M = some res → ea_w E ids M s H locs → lv_has ls 9 [(0, .ref (E.1 72)), (3, .int x3), (4, .int x4), (5, .int x5), (6, .int x6), (7, .int x7)] → W p l e (ea_rm 2 50) s m args below meth cd H locs 0 0 (MQ below (ea_Qv E ids res) args s 0 0 (ea_Ad E ids)) (F0 m 129 ls []) := by
  intro x3 x4 x5 x6 x7 M H locs ls hf  hw hl
  replace hf := (fX6_search_129.eq_1 ..).symm.trans hf
  refine lv_iinc (v := x7 + (1 : Int32)) (lv' := [(7, .int (x7 + (1 : Int32))), (0, .ref (E.1 72)), (3, .int x3), (4, .int x4), (5, .int x5), (6, .int x6)]) C.1 C.2.1 dX6_search_129 hl (k := 5) rfl rfl (by decide) rfl (fun ls hl => ?_)
  refine lv_goto (tgt := 69) C.1 C.2.1 dX6_search_132 (by decide) ?_
  exact hk69 _ _ _ _ _ _ _ _ _ hf hw (lv_sub hl [1, 2, 3, 4, 5, 0] rfl)
set_option maxHeartbeats 4000000 in
set_option maxRecDepth 20000 in
theorem wX6_search_69 (C : ea_C p s m args meth cd cX6_search 9 none RX6) (hX : ea_X ids) (ho1 : ea_ok ids a1 1) {k135 : Int32 → Int32 → Int32 → Int32 → eM → Option (eM)} (hk135 : ∀ (x3 : Int32) (x4 : Int32) (x5 : Int32) (x6 : Int32) (M : eM) (H : Heap) (locs : List Loc) (ls : Array Slot), k135 x3 x4 x5 x6 M = some res → ea_w E ids M s H locs → lv_has ls 9 [(0, .ref (E.1 72)), (3, .int x3), (4, .int x4), (5, .int x5), (6, .int x6)] → W p l e (ea_rm 2 50) s m args below meth cd H locs 0 0 (MQ below (ea_Qv E ids res) args s 0 0 (ea_Ad E ids)) (F0 m 135 ls [])) : ∀ (n : Nat) (x3 : Int32) (x4 : Int32) (x5 : Int32) (x6 : Int32) (x7 : Int32) (M : eM) (H : Heap) (locs : List Loc) (ls : Array Slot), fX6_search_69 k135 a1 n x3 x4 x5 x6 x7 M = some res → ea_w E ids M s H locs → lv_has ls 9 [(0, .ref (E.1 72)), (3, .int x3), (4, .int x4), (5, .int x5), (6, .int x6), (7, .int x7)] → W p l e (ea_rm 2 50) s m args below meth cd H locs 0 0 (MQ below (ea_Qv E ids res) args s 0 0 (ea_Ad E ids)) (F0 m 69 ls []) := by
  intro n
  induction n with
  | zero => intro x3 x4 x5 x6 x7 M H locs ls hf; cases hf
  | succ n ih =>
    intro x3 x4 x5 x6 x7 M H locs ls hf  hw hl
    replace hf := (fX6_search_69.eq_2 ..).symm.trans hf
    refine lv_iload C.1 C.2.1 dX6_search_69 (lv_at hl 5 rfl) ?_
    refine lv_iload C.1 C.2.1 dX6_search_71 (lv_at hl 2 rfl) ?_
    refine lv_icmp_gt (tgt := 135) C.1 C.2.1 dX6_search_73 (by decide) (fun hc1 => ?_) (fun hc1 => ?_)
    · replace hf := ea_if_t hc1 hf
      exact hk135 _ _ _ _ _ _ _ _ hf hw (lv_sub hl [0, 1, 2, 3, 4] rfl)
    · replace hf := ea_if_f hc1 hf
      refine lv_iload C.1 C.2.1 dX6_search_76 (lv_at hl 5 rfl) ?_
      refine lv_bipush (v := 21) C.1 C.2.1 dX6_search_78 (by decide) ?_
      refine lv_icmp_ge (tgt := 135) C.1 C.2.1 dX6_search_80 (by decide) (fun hc2 => ?_) (fun hc2 => ?_)
      · replace hf := ea_if_t hc2 hf
        exact hk135 _ _ _ _ _ _ _ _ hf hw (lv_sub hl [0, 1, 2, 3, 4] rfl)
      · replace hf := ea_if_f hc2 hf
        refine lv_aload_n C.1 C.2.1 dX6_search_83 rfl (lv_at hl 0 rfl) ?_
        refine lv_iload C.1 C.2.1 dX6_search_84 (lv_at hl 4 rfl) ?_
        refine lv_iload C.1 C.2.1 dX6_search_86 (lv_at hl 5 rfl) ?_
        refine lv_iload C.1 C.2.1 dX6_search_88 (lv_at hl 3 rfl) ?_
        obtain ⟨r4, M5, he3, hf⟩ := ea_ci_s hf
        refine ea_runi2 hw (cl_X6_44 C hw (hX 72 6 rfl) (As := [.int x6, .int x7, .int x5]) (rest := []) (mX6_mayDo (l := l) (E := E) (ids := ids) hX he3) (by decide) rfl hl.1 rfl (Nat.le_of_ble_eq_true rfl) dX6_search_90 ⟨Nat.le_refl _, Nat.le_refl _⟩) (fun H locs hw => ?_)
        refine lv_if_eq (tgt := 129) C.1 C.2.1 dX6_search_93 (by decide) (fun hc6 => ?_) (fun hc6 => ?_)
        · replace hf := ea_if_t hc6 hf
          exact wX6_search_129 C hX ho1 ih _ _ _ _ _ _ _ _ _ hf hw (lv_sub hl [0, 1, 2, 3, 4, 5] rfl)
        · replace hf := ea_if_f hc6 hf
          refine lv_iconst (v := 0) C.1 C.2.1 dX6_search_96 (by decide) ?_
          refine lv_istore (lv' := [(8, .int (0 : Int32)), (0, .ref (E.1 72)), (3, .int x3), (4, .int x4), (5, .int x5), (6, .int x6), (7, .int x7)]) C.1 C.2.1 dX6_search_97 hl (by decide) rfl (fun ls hl => ?_)
          exact wX6_search_99 C hX ho1 (wX6_search_129 C hX ho1 ih) ea_N _ _ _ _ _ _ _ _ _ _ hf hw (lv_sub hl [1, 2, 3, 4, 5, 6, 0] rfl)
set_option maxHeartbeats 4000000 in
set_option maxRecDepth 20000 in
theorem wX6_search_135 (C : ea_C p s m args meth cd cX6_search 9 none RX6) (hX : ea_X ids) (ho1 : ea_ok ids a1 1) {k53 : Int32 → Int32 → Int32 → Int32 → eM → Option (eM)} (hk53 : ∀ (x3 : Int32) (x4 : Int32) (x5 : Int32) (x6 : Int32) (M : eM) (H : Heap) (locs : List Loc) (ls : Array Slot), k53 x3 x4 x5 x6 M = some res → ea_w E ids M s H locs → lv_has ls 9 [(0, .ref (E.1 72)), (3, .int x3), (4, .int x4), (5, .int x5), (6, .int x6)] → W p l e (ea_rm 2 50) s m args below meth cd H locs 0 0 (MQ below (ea_Qv E ids res) args s 0 0 (ea_Ad E ids)) (F0 m 53 ls [])) : ∀ (x3 : Int32) (x4 : Int32) (x5 : Int32) (x6 : Int32) (M : eM) (H : Heap) (locs : List Loc) (ls : Array Slot), fX6_search_135 k53 a1 x3 x4 x5 x6 M = some res → ea_w E ids M s H locs → lv_has ls 9 [(0, .ref (E.1 72)), (3, .int x3), (4, .int x4), (5, .int x5), (6, .int x6)] → W p l e (ea_rm 2 50) s m args below meth cd H locs 0 0 (MQ below (ea_Qv E ids res) args s 0 0 (ea_Ad E ids)) (F0 m 135 ls []) := by
  intro x3 x4 x5 x6 M H locs ls hf  hw hl
  replace hf := (fX6_search_135.eq_1 ..).symm.trans hf
  refine lv_iinc (v := x6 + (1 : Int32)) (lv' := [(6, .int (x6 + (1 : Int32))), (0, .ref (E.1 72)), (3, .int x3), (4, .int x4), (5, .int x5)]) C.1 C.2.1 dX6_search_135 hl (k := 4) rfl rfl (by decide) rfl (fun ls hl => ?_)
  refine lv_goto (tgt := 53) C.1 C.2.1 dX6_search_138 (by decide) ?_
  exact hk53 _ _ _ _ _ _ _ _ hf hw (lv_sub hl [1, 2, 3, 4, 0] rfl)
set_option maxHeartbeats 4000000 in
set_option maxRecDepth 20000 in
theorem wX6_search_53 (C : ea_C p s m args meth cd cX6_search 9 none RX6) (hX : ea_X ids) (ho1 : ea_ok ids a1 1) : ∀ (n : Nat) (x3 : Int32) (x4 : Int32) (x5 : Int32) (x6 : Int32) (M : eM) (H : Heap) (locs : List Loc) (ls : Array Slot), fX6_search_53 a1 n x3 x4 x5 x6 M = some res → ea_w E ids M s H locs → lv_has ls 9 [(0, .ref (E.1 72)), (3, .int x3), (4, .int x4), (5, .int x5), (6, .int x6)] → W p l e (ea_rm 2 50) s m args below meth cd H locs 0 0 (MQ below (ea_Qv E ids res) args s 0 0 (ea_Ad E ids)) (F0 m 53 ls []) := by
  intro n
  induction n with
  | zero => intro x3 x4 x5 x6 M H locs ls hf; cases hf
  | succ n ih =>
    intro x3 x4 x5 x6 M H locs ls hf  hw hl
    replace hf := (fX6_search_53.eq_2 ..).symm.trans hf
    refine lv_iload C.1 C.2.1 dX6_search_53 (lv_at hl 4 rfl) ?_
    refine lv_iload_n C.1 C.2.1 dX6_search_55 rfl (lv_at hl 1 rfl) ?_
    refine lv_icmp_gt (tgt := 141) C.1 C.2.1 dX6_search_56 (by decide) (fun hc1 => ?_) (fun hc1 => ?_)
    · replace hf := ea_if_t hc1 hf
      exact ea_vret C hw hf dX6_search_141
    · replace hf := ea_if_f hc1 hf
      refine lv_iload C.1 C.2.1 dX6_search_59 (lv_at hl 4 rfl) ?_
      refine lv_bipush (v := 21) C.1 C.2.1 dX6_search_61 (by decide) ?_
      refine lv_icmp_ge (tgt := 141) C.1 C.2.1 dX6_search_63 (by decide) (fun hc2 => ?_) (fun hc2 => ?_)
      · replace hf := ea_if_t hc2 hf
        exact ea_vret C hw hf dX6_search_141
      · replace hf := ea_if_f hc2 hf
        refine lv_iconst (v := 0) C.1 C.2.1 dX6_search_66 (by decide) ?_
        refine lv_istore (lv' := [(7, .int (0 : Int32)), (0, .ref (E.1 72)), (3, .int x3), (4, .int x4), (5, .int x5), (6, .int x6)]) C.1 C.2.1 dX6_search_67 hl (by decide) rfl (fun ls hl => ?_)
        exact wX6_search_69 C hX ho1 (wX6_search_135 C hX ho1 ih) ea_N _ _ _ _ _ _ _ _ _ hf hw (lv_sub hl [1, 2, 3, 4, 5, 0] rfl)
set_option maxHeartbeats 4000000 in
set_option maxRecDepth 20000 in
theorem wX6_search_0 (C : ea_C p s m args meth cd cX6_search 9 none RX6) (hX : ea_X ids) (ho1 : ea_ok ids a1 1) : ∀ (x2 : Int32) (M : eM) (H : Heap) (locs : List Loc) (ls : Array Slot), fX6_search_0 a1 x2 M = some res → ea_w E ids M s H locs → lv_has ls 9 [(0, .ref (E.1 72)), (1, .ref (E.1 a1)), (2, .int x2)] → W p l e (ea_rm 2 50) s m args below meth cd H locs 0 0 (MQ below (ea_Qv E ids res) args s 0 0 (ea_Ad E ids)) (F0 m 0 ls []) := by
  intro x2 M H locs ls hf  hw hl
  replace hf := (fX6_search_0.eq_1 ..).symm.trans hf
  refine lv_aload_n C.1 C.2.1 dX6_search_0 rfl (lv_at hl 0 rfl) ?_
  refine lv_aload_n C.1 C.2.1 dX6_search_1 rfl (lv_at hl 1 rfl) ?_
  refine lv_iload_n C.1 C.2.1 dX6_search_2 rfl (lv_at hl 2 rfl) ?_
  obtain ⟨M2, he1, hf⟩ := ea_cv_s hf
  refine ea_runv hw (cl_X6_27 C hw (hX 72 6 rfl) (As := [.ref (E.1 a1), .int x2]) (rest := []) (mX6_sense (l := l) (E := E) (ids := ids) hX ho1 he1) (by decide) rfl hl.1 rfl (Nat.le_of_ble_eq_true rfl) dX6_search_3 ⟨Nat.le_refl _, Nat.le_refl _⟩) (fun H locs hw => ?_)
  refine lv_aload_n C.1 C.2.1 dX6_search_6 rfl (lv_at hl 0 rfl) ?_
  refine lv_ldc (v := (1000000 : Int32)) C.1 C.2.1 C.2.2.2.1 (C.2.2.2.2.1 _ wk_RX6_31) dX6_search_7 ?_
  refine pu_X6_32 C hw (hX 72 6 rfl) dX6_search_9 (fun H locs hw => ?_)
  refine lv_aload_n C.1 C.2.1 dX6_search_12 rfl (lv_at hl 0 rfl) ?_
  refine lv_ldc (v := (1000000 : Int32)) C.1 C.2.1 C.2.2.2.1 (C.2.2.2.2.1 _ wk_RX6_31) dX6_search_13 ?_
  refine pu_X6_36 C hw (hX 72 6 rfl) dX6_search_15 (fun H locs hw => ?_)
  refine lv_aload_n C.1 C.2.1 dX6_search_18 rfl (lv_at hl 1 rfl) ?_
  refine gf_X6_39 C hw ho1 dX6_search_19 ?_
  refine lv_iconst (v := 0) C.1 C.2.1 dX6_search_22 (by decide) ?_
  obtain ⟨hc3, hf⟩ := ea_ck_s hf
  refine ea_iald C hw (ok_1_5 ho1) hc3 dX6_search_23 ?_
  refine lv_bipush (v := 10) C.1 C.2.1 dX6_search_24 (by decide) ?_
  refine lv_idiv C.1 C.2.1 dX6_search_26 (by decide) ?_
  obtain ⟨y4, ey5, hf⟩ := ea_lt_s hf
  refine ea_topi ey5 ?_
  refine lv_istore_n (lv' := [(3, .int y4), (0, .ref (E.1 72)), (1, .ref (E.1 a1)), (2, .int x2)]) C.1 C.2.1 dX6_search_27 rfl hl (by decide) rfl (fun ls hl => ?_)
  refine lv_aload_n C.1 C.2.1 dX6_search_28 rfl (lv_at hl 2 rfl) ?_
  refine gf_X6_39 C hw ho1 dX6_search_29 ?_
  refine lv_iconst (v := 1) C.1 C.2.1 dX6_search_32 (by decide) ?_
  obtain ⟨hc6, hf⟩ := ea_ck_s hf
  refine ea_iald C hw (ok_1_5 ho1) hc6 dX6_search_33 ?_
  refine lv_bipush (v := 10) C.1 C.2.1 dX6_search_34 (by decide) ?_
  refine lv_idiv C.1 C.2.1 dX6_search_36 (by decide) ?_
  obtain ⟨y7, ey8, hf⟩ := ea_lt_s hf
  refine ea_topi ey8 ?_
  refine lv_istore (lv' := [(4, .int y7), (3, .int y4), (0, .ref (E.1 72)), (1, .ref (E.1 a1)), (2, .int x2)]) C.1 C.2.1 dX6_search_37 hl (by decide) rfl (fun ls hl => ?_)
  refine lv_aload_n C.1 C.2.1 dX6_search_39 rfl (lv_at hl 3 rfl) ?_
  refine gf_X6_39 C hw ho1 dX6_search_40 ?_
  refine lv_iconst (v := 2) C.1 C.2.1 dX6_search_43 (by decide) ?_
  obtain ⟨hc9, hf⟩ := ea_ck_s hf
  refine ea_iald C hw (ok_1_5 ho1) hc9 dX6_search_44 ?_
  refine lv_bipush (v := 10) C.1 C.2.1 dX6_search_45 (by decide) ?_
  refine lv_idiv C.1 C.2.1 dX6_search_47 (by decide) ?_
  obtain ⟨y10, ey11, hf⟩ := ea_lt_s hf
  refine ea_topi ey11 ?_
  refine lv_istore (lv' := [(5, .int y10), (4, .int y7), (3, .int y4), (0, .ref (E.1 72)), (1, .ref (E.1 a1)), (2, .int x2)]) C.1 C.2.1 dX6_search_48 hl (by decide) rfl (fun ls hl => ?_)
  refine lv_iconst (v := 0) C.1 C.2.1 dX6_search_50 (by decide) ?_
  refine lv_istore (lv' := [(6, .int (0 : Int32)), (5, .int y10), (4, .int y7), (3, .int y4), (0, .ref (E.1 72)), (1, .ref (E.1 a1)), (2, .int x2)]) C.1 C.2.1 dX6_search_51 hl (by decide) rfl (fun ls hl => ?_)
  exact wX6_search_53 C hX ho1 ea_N _ _ _ _ _ _ _ _ hf hw (lv_sub hl [4, 3, 2, 1, 0] rfl)
set_option maxHeartbeats 4000000 in
set_option maxRecDepth 20000 in
theorem mX6_search {l : Launch} {E : eE} {ids : List Nat} (hX : ea_X ids) {a1 : Nat} {x2 : Int32} (ho1 : ea_ok ids a1 1) {M : eM} {res : eM} (hf : fX6_search a1 x2 M = some res) : ea_Mv l yX6_search cX6_search 9 2 50 E ids [.ref (E.1 72), .ref (E.1 a1), .int x2] M res := by
  refine ea_gov (by decide) (Nat.le_of_ble_eq_true rfl) wc_X6_search ?_
  intro p e s m below meth cd ls C hw hl
  exact wX6_search_0 C hX ho1 _ _ _ _ _ hf hw hl
end SX6_search

def fX10_throwLight_23 (k76 : Int32 → eM → Option (eM)) : Nat → Int32 → Int32 → Int32 → Int32 → eM → Option (eM)
  | 0, _, _, _, _, _ => none
  | n + 1, x2, x3, x5, x6, M => if (3 : Int32) ≤ x6 then (k76 x3 M) else (ea_ci (fX8_lookShade 30 x2 x6 M) (fun r3 M4 => ea_ck (ea_ix x6 (ea_len 73)) (ea_ci (fX3_greyShade 50 x5 x6 (ea_pI M4 73 (x6.toNatClampNeg) r3)) (fun r7 M8 => ea_ck (ea_ix x6 (ea_len 74)) (fX10_throwLight_23 k76 n x2 x3 x5 (x6 + (1 : Int32)) (ea_pI M8 74 (x6.toNatClampNeg) r7))))))
def fX10_throwLight_76 (x3 : Int32) (M : eM) : Option (eM) := ea_ck (ea_is (M.2.2 4 0) 1) (ea_cv (fX6_search (M.2.2 4 0) x3 M) (fun M3 => some M3))
def fX10_throwLight_0 (x1 : Int32) (x2 : Int32) (x3 : Int32) (x4 : Int32) (x5 : Int32) (M : eM) : Option (eM) := ea_cv (fX3_find 50 x1 x4 (999 : Int32) M) (fun M2 => ea_cv (fX3_measureSpan 50 M2) (fun M4 => fX10_throwLight_23 (fX10_throwLight_76) ea_N x2 x3 x5 (0 : Int32) M4))
def fX10_throwLight (x1 : Int32) (x2 : Int32) (x3 : Int32) (x4 : Int32) (x5 : Int32) (M : eM) : Option (eM) := fX10_throwLight_0 x1 x2 x3 x4 x5 M
section SX10_throwLight
variable {p : Program} {l : Launch} {e : Env} {s : State} {m : MethodId} {args : Array Value} {below : List Frame} {meth : Method} {cd : Code} {E : eE} {ids : List Nat} {res : eM}
set_option maxHeartbeats 4000000 in
set_option maxRecDepth 20000 in
theorem wX10_throwLight_23 (C : ea_C p s m args meth cd cX10_throwLight 7 none RX10) (hX : ea_X ids) {k76 : Int32 → eM → Option (eM)} (hk76 : ∀ (x3 : Int32) (M : eM) (H : Heap) (locs : List Loc) (ls : Array Slot), k76 x3 M = some res → ea_w E ids M s H locs → lv_has ls 7 [(0, .ref (E.1 0)), (3, .int x3)] → W p l e (ea_rm 4 103) s m args below meth cd H locs 0 0 (MQ below (ea_Qv E ids res) args s 0 0 (ea_Ad E ids)) (F0 m 76 ls [])) : ∀ (n : Nat) (x2 : Int32) (x3 : Int32) (x5 : Int32) (x6 : Int32) (M : eM) (H : Heap) (locs : List Loc) (ls : Array Slot), fX10_throwLight_23 k76 n x2 x3 x5 x6 M = some res → ea_w E ids M s H locs → lv_has ls 7 [(0, .ref (E.1 0)), (2, .int x2), (3, .int x3), (5, .int x5), (6, .int x6)] → W p l e (ea_rm 4 103) s m args below meth cd H locs 0 0 (MQ below (ea_Qv E ids res) args s 0 0 (ea_Ad E ids)) (F0 m 23 ls []) := by
  intro n
  induction n with
  | zero => intro x2 x3 x5 x6 M H locs ls hf; cases hf
  | succ n ih =>
    intro x2 x3 x5 x6 M H locs ls hf  hw hl
    replace hf := (fX10_throwLight_23.eq_2 ..).symm.trans hf
    refine lv_iload C.1 C.2.1 dX10_throwLight_23 (lv_at hl 4 rfl) ?_
    refine lv_iconst (v := 3) C.1 C.2.1 dX10_throwLight_25 (by decide) ?_
    refine lv_icmp_ge (tgt := 76) C.1 C.2.1 dX10_throwLight_26 (by decide) (fun hc1 => ?_) (fun hc1 => ?_)
    · replace hf := ea_if_t hc1 hf
      exact hk76 _ _ _ _ _ hf hw (lv_sub hl [0, 2] rfl)
    · replace hf := ea_if_f hc1 hf
      refine lv_aload_n C.1 C.2.1 dX10_throwLight_29 rfl (lv_at hl 0 rfl) ?_
      refine gf_X10_74 C hw (hX 0 10 rfl) dX10_throwLight_30 ?_
      refine gf_X10_372 C hw (hX 72 6 rfl) dX10_throwLight_33 ?_
      refine W.eq (g2 := F0 m 36 ls [.ref (E.1 73)]) rfl ?_
      refine lv_iload C.1 C.2.1 dX10_throwLight_36 (lv_at hl 4 rfl) ?_
      refine lv_aload_n C.1 C.2.1 dX10_throwLight_38 rfl (lv_at hl 0 rfl) ?_
      refine gf_X10_44 C hw (hX 0 10 rfl) dX10_throwLight_39 ?_
      refine lv_iload_n C.1 C.2.1 dX10_throwLight_42 rfl (lv_at hl 1 rfl) ?_
      refine lv_iload C.1 C.2.1 dX10_throwLight_43 (lv_at hl 4 rfl) ?_
      obtain ⟨r3, M4, he2, hf⟩ := ea_ci_s hf
      refine ea_runi2 hw (cl_X10_231 C hw (hX 30 8 rfl) (As := [.int x2, .int x6]) (rest := [.int x6, .ref (E.1 73)]) (mX8_lookShade (l := l) (E := E) (ids := ids) hX (hX 30 8 rfl) he2) (by decide) rfl hl.1 rfl (Nat.le_of_ble_eq_true rfl) dX10_throwLight_45 ⟨Nat.le_refl _, Nat.le_refl _⟩) (fun H locs hw => ?_)
      obtain ⟨hc5, hf⟩ := ea_ck_s hf
      refine ea_iast C hw (show ea_ok ids 73 20 from ok_6_0 (hX 72 6 rfl)) hc5 dX10_throwLight_48 (fun H locs hw => ?_)
      refine lv_aload_n C.1 C.2.1 dX10_throwLight_49 rfl (lv_at hl 0 rfl) ?_
      refine gf_X10_74 C hw (hX 0 10 rfl) dX10_throwLight_50 ?_
      refine gf_X10_375 C hw (hX 72 6 rfl) dX10_throwLight_53 ?_
      refine W.eq (g2 := F0 m 56 ls [.ref (E.1 74)]) rfl ?_
      refine lv_iload C.1 C.2.1 dX10_throwLight_56 (lv_at hl 4 rfl) ?_
      refine lv_aload_n C.1 C.2.1 dX10_throwLight_58 rfl (lv_at hl 0 rfl) ?_
      refine gf_X10_57 C hw (hX 0 10 rfl) dX10_throwLight_59 ?_
      refine lv_iload C.1 C.2.1 dX10_throwLight_62 (lv_at hl 3 rfl) ?_
      refine lv_iload C.1 C.2.1 dX10_throwLight_64 (lv_at hl 4 rfl) ?_
      obtain ⟨r7, M8, he6, hf⟩ := ea_ci_s hf
      refine ea_runi2 hw (cl_X10_267 C hw (hX 50 3 rfl) (As := [.int x5, .int x6]) (rest := [.int x6, .ref (E.1 74)]) (mX3_greyShade (l := l) (E := E) (ids := ids) hX (hX 50 3 rfl) he6) (by decide) rfl hl.1 rfl (Nat.le_of_ble_eq_true rfl) dX10_throwLight_66 ⟨Nat.le_refl _, Nat.le_refl _⟩) (fun H locs hw => ?_)
      obtain ⟨hc9, hf⟩ := ea_ck_s hf
      refine ea_iast C hw (show ea_ok ids 74 20 from ok_6_1 (hX 72 6 rfl)) hc9 dX10_throwLight_69 (fun H locs hw => ?_)
      refine lv_iinc (v := x6 + (1 : Int32)) (lv' := [(6, .int (x6 + (1 : Int32))), (0, .ref (E.1 0)), (2, .int x2), (3, .int x3), (5, .int x5)]) C.1 C.2.1 dX10_throwLight_70 hl (k := 4) rfl rfl (by decide) rfl (fun ls hl => ?_)
      refine lv_goto (tgt := 23) C.1 C.2.1 dX10_throwLight_73 (by decide) ?_
      exact ih _ _ _ _ _ _ _ _ hf hw (lv_sub hl [1, 2, 3, 4, 0] rfl)
set_option maxHeartbeats 4000000 in
set_option maxRecDepth 20000 in
theorem wX10_throwLight_76 (C : ea_C p s m args meth cd cX10_throwLight 7 none RX10) (hX : ea_X ids) : ∀ (x3 : Int32) (M : eM) (H : Heap) (locs : List Loc) (ls : Array Slot), fX10_throwLight_76 x3 M = some res → ea_w E ids M s H locs → lv_has ls 7 [(0, .ref (E.1 0)), (3, .int x3)] → W p l e (ea_rm 4 103) s m args below meth cd H locs 0 0 (MQ below (ea_Qv E ids res) args s 0 0 (ea_Ad E ids)) (F0 m 76 ls []) := by
  intro x3 M H locs ls hf  hw hl
  replace hf := (fX10_throwLight_76.eq_1 ..).symm.trans hf
  refine lv_aload_n C.1 C.2.1 dX10_throwLight_76 rfl (lv_at hl 0 rfl) ?_
  refine gf_X10_74 C hw (hX 0 10 rfl) dX10_throwLight_77 ?_
  refine lv_aload_n C.1 C.2.1 dX10_throwLight_80 rfl (lv_at hl 0 rfl) ?_
  refine gf_X10_24 C hw (hX 0 10 rfl) dX10_throwLight_81 ?_
  refine gf_X10_110 C hw (hX 4 9 rfl) dX10_throwLight_84 ?_
  obtain ⟨hc1, hf⟩ := ea_ck_s hf
  refine lv_iload_n C.1 C.2.1 dX10_throwLight_87 rfl (lv_at hl 1 rfl) ?_
  obtain ⟨M3, he2, hf⟩ := ea_cv_s hf
  refine ea_runv hw (cl_X10_378 C hw (hX 72 6 rfl) (As := [.ref (E.1 (M.2.2 4 0)), .int x3]) (rest := []) (mX6_search (l := l) (E := E) (ids := ids) hX (ea_dyn hX hc1) he2) (by decide) rfl hl.1 rfl (Nat.le_of_ble_eq_true rfl) dX10_throwLight_88 ⟨Nat.le_refl _, Nat.le_refl _⟩) (fun H locs hw => ?_)
  exact ea_vret C hw hf dX10_throwLight_91
set_option maxHeartbeats 4000000 in
set_option maxRecDepth 20000 in
theorem wX10_throwLight_0 (C : ea_C p s m args meth cd cX10_throwLight 7 none RX10) (hX : ea_X ids) : ∀ (x1 : Int32) (x2 : Int32) (x3 : Int32) (x4 : Int32) (x5 : Int32) (M : eM) (H : Heap) (locs : List Loc) (ls : Array Slot), fX10_throwLight_0 x1 x2 x3 x4 x5 M = some res → ea_w E ids M s H locs → lv_has ls 7 [(0, .ref (E.1 0)), (1, .int x1), (2, .int x2), (3, .int x3), (4, .int x4), (5, .int x5)] → W p l e (ea_rm 4 103) s m args below meth cd H locs 0 0 (MQ below (ea_Qv E ids res) args s 0 0 (ea_Ad E ids)) (F0 m 0 ls []) := by
  intro x1 x2 x3 x4 x5 M H locs ls hf  hw hl
  replace hf := (fX10_throwLight_0.eq_1 ..).symm.trans hf
  refine lv_aload_n C.1 C.2.1 dX10_throwLight_0 rfl (lv_at hl 0 rfl) ?_
  refine gf_X10_57 C hw (hX 0 10 rfl) dX10_throwLight_1 ?_
  refine lv_iload_n C.1 C.2.1 dX10_throwLight_4 rfl (lv_at hl 1 rfl) ?_
  refine lv_iload C.1 C.2.1 dX10_throwLight_5 (lv_at hl 4 rfl) ?_
  refine lv_sipush (v := 999) C.1 C.2.1 dX10_throwLight_7 (by decide) ?_
  obtain ⟨M2, he1, hf⟩ := ea_cv_s hf
  refine ea_runv hw (cl_X10_241 C hw (hX 50 3 rfl) (As := [.int x1, .int x4, .int (999 : Int32)]) (rest := []) (mX3_find (l := l) (E := E) (ids := ids) hX (hX 50 3 rfl) he1) (by decide) rfl hl.1 rfl (Nat.le_of_ble_eq_true rfl) dX10_throwLight_10 ⟨Nat.le_refl _, Nat.le_refl _⟩) (fun H locs hw => ?_)
  refine lv_aload_n C.1 C.2.1 dX10_throwLight_13 rfl (lv_at hl 0 rfl) ?_
  refine gf_X10_57 C hw (hX 0 10 rfl) dX10_throwLight_14 ?_
  obtain ⟨M4, he3, hf⟩ := ea_cv_s hf
  refine ea_runv hw (cl_X10_258 C hw (hX 50 3 rfl) (As := []) (rest := []) (mX3_measureSpan (l := l) (E := E) (ids := ids) hX (hX 50 3 rfl) he3) (by decide) rfl hl.1 rfl (Nat.le_of_ble_eq_true rfl) dX10_throwLight_17 ⟨Nat.le_refl _, Nat.le_refl _⟩) (fun H locs hw => ?_)
  refine lv_iconst (v := 0) C.1 C.2.1 dX10_throwLight_20 (by decide) ?_
  refine lv_istore (lv' := [(6, .int (0 : Int32)), (0, .ref (E.1 0)), (1, .int x1), (2, .int x2), (3, .int x3), (4, .int x4), (5, .int x5)]) C.1 C.2.1 dX10_throwLight_21 hl (by decide) rfl (fun ls hl => ?_)
  exact wX10_throwLight_23 C hX (wX10_throwLight_76 C hX) ea_N _ _ _ _ _ _ _ _ hf hw (lv_sub hl [1, 3, 4, 6, 0] rfl)
set_option maxHeartbeats 4000000 in
set_option maxRecDepth 20000 in
theorem mX10_throwLight {l : Launch} {E : eE} {ids : List Nat} (hX : ea_X ids) {x1 : Int32} {x2 : Int32} {x3 : Int32} {x4 : Int32} {x5 : Int32} {M : eM} {res : eM} (hf : fX10_throwLight x1 x2 x3 x4 x5 M = some res) : ea_Mv l yX10_throwLight cX10_throwLight 7 4 103 E ids [.ref (E.1 0), .int x1, .int x2, .int x3, .int x4, .int x5] M res := by
  refine ea_gov (by decide) (Nat.le_of_ble_eq_true rfl) wc_X10_throwLight ?_
  intro p e s m below meth cd ls C hw hl
  exact wX10_throwLight_0 C hX _ _ _ _ _ _ _ _ _ hf hw hl
end SX10_throwLight

def fX10_cannot_106 (k31 : Int32 → Int32 → Int32 → Int32 → Int32 → Int32 → eM → Option (Int32 × eM)) (x1 : Int32) (x2 : Int32) (x3 : Int32) (x4 : Int32) (x5 : Int32) (x6 : Int32) (M : eM) : Option (Int32 × eM) := k31 x1 x2 x3 x4 x5 (x6 + (1 : Int32)) M
def fX10_cannot_103 (k31 : Int32 → Int32 → Int32 → Int32 → Int32 → Int32 → eM → Option (Int32 × eM)) (x1 : Int32) (x2 : Int32) (x3 : Int32) (x4 : Int32) (x6 : Int32) (t0 : Int32) (t1 : Int32) (M : eM) : Option (Int32 × eM) := fX10_cannot_106 k31 x1 x2 x3 x4 (t1 + t0) x6 M
def fX10_cannot_31 : Nat → Int32 → Int32 → Int32 → Int32 → Int32 → Int32 → eM → Option (Int32 × eM)
  | 0, _, _, _, _, _, _, _ => none
  | n + 1, x1, x2, x3, x4, x5, x6, M => ea_ck (ea_is (M.2.2 4 0) 1) (ea_ci (fX1_cells (M.2.2 4 0) M) (fun r3 M4 => if r3 ≤ x6 then (some (x5, M4)) else (ea_ci (fX8_latestLook 30 x6 (0 : Int32) (999 : Int32) M4) (fun r7 M8 => ea_ci (fX8_isSeen 30 r7 M8) (fun r10 M11 => if r10 = 0 then (fX10_cannot_106 (fX10_cannot_31 n) x1 x2 x3 x4 x5 x6 M11) else (ea_cv (fX10_throwLight x6 r7 x1 x2 x3 M11) (fun M14 => if (M14.1 72 3) ≤ x4 then (fX10_cannot_103 (fX10_cannot_31 n) x1 x2 x3 x4 x6 (0 : Int32) x5 M14) else (fX10_cannot_103 (fX10_cannot_31 n) x1 x2 x3 x4 x6 (1 : Int32) x5 M14))))))))
def fX10_cannot_0 (x1 : Int32) (x2 : Int32) (x3 : Int32) (x4 : Int32) (M : eM) : Option (Int32 × eM) := ea_ci (fX10_mayThrow x1 x2 x3 M) (fun r2 M3 => if r2 = 0 then (some ((-2 : Int32), M3)) else (ea_ci (fX10_isWithin x4 (0 : Int32) (9999 : Int32) M3) (fun r6 M7 => if r6 = 0 then (some ((-2 : Int32), M7)) else (fX10_cannot_31 ea_N x1 x2 x3 x4 (0 : Int32) (0 : Int32) M7))))
def fX10_cannot (x1 : Int32) (x2 : Int32) (x3 : Int32) (x4 : Int32) (M : eM) : Option (Int32 × eM) := fX10_cannot_0 x1 x2 x3 x4 M
section SX10_cannot
variable {p : Program} {l : Launch} {e : Env} {s : State} {m : MethodId} {args : Array Value} {below : List Frame} {meth : Method} {cd : Code} {E : eE} {ids : List Nat} {res : Int32 × eM}
set_option maxHeartbeats 4000000 in
set_option maxRecDepth 20000 in
theorem wX10_cannot_106 (C : ea_C p s m args meth cd cX10_cannot 8 (some .int) RX10) (hX : ea_X ids) {k31 : Int32 → Int32 → Int32 → Int32 → Int32 → Int32 → eM → Option (Int32 × eM)} (hk31 : ∀ (x1 : Int32) (x2 : Int32) (x3 : Int32) (x4 : Int32) (x5 : Int32) (x6 : Int32) (M : eM) (H : Heap) (locs : List Loc) (ls : Array Slot), k31 x1 x2 x3 x4 x5 x6 M = some res → ea_w E ids M s H locs → lv_has ls 8 [(0, .ref (E.1 0)), (1, .int x1), (2, .int x2), (3, .int x3), (4, .int x4), (5, .int x5), (6, .int x6)] → W p l e (ea_rm 5 129) s m args below meth cd H locs 0 0 (MQ below (ea_Qi E ids res) args s 0 0 (ea_Ad E ids)) (F0 m 31 ls [])) : ∀ (x1 : Int32) (x2 : Int32) (x3 : Int32) (x4 : Int32) (x5 : Int32) (x6 : Int32) (M : eM) (H : Heap) (locs : List Loc) (ls : Array Slot), fX10_cannot_106 k31 x1 x2 x3 x4 x5 x6 M = some res → ea_w E ids M s H locs → lv_has ls 8 [(0, .ref (E.1 0)), (1, .int x1), (2, .int x2), (3, .int x3), (4, .int x4), (5, .int x5), (6, .int x6)] → W p l e (ea_rm 5 129) s m args below meth cd H locs 0 0 (MQ below (ea_Qi E ids res) args s 0 0 (ea_Ad E ids)) (F0 m 106 ls []) := by
  intro x1 x2 x3 x4 x5 x6 M H locs ls hf  hw hl
  replace hf := (fX10_cannot_106.eq_1 ..).symm.trans hf
  refine lv_iinc (v := x6 + (1 : Int32)) (lv' := [(6, .int (x6 + (1 : Int32))), (0, .ref (E.1 0)), (1, .int x1), (2, .int x2), (3, .int x3), (4, .int x4), (5, .int x5)]) C.1 C.2.1 dX10_cannot_106 hl (k := 6) rfl rfl (by decide) rfl (fun ls hl => ?_)
  refine lv_goto (tgt := 31) C.1 C.2.1 dX10_cannot_109 (by decide) ?_
  exact hk31 _ _ _ _ _ _ _ _ _ _ hf hw (lv_sub hl [1, 2, 3, 4, 5, 6, 0] rfl)
set_option maxHeartbeats 4000000 in
set_option maxRecDepth 20000 in
theorem wX10_cannot_103 (C : ea_C p s m args meth cd cX10_cannot 8 (some .int) RX10) (hX : ea_X ids) {k31 : Int32 → Int32 → Int32 → Int32 → Int32 → Int32 → eM → Option (Int32 × eM)} (hk31 : ∀ (x1 : Int32) (x2 : Int32) (x3 : Int32) (x4 : Int32) (x5 : Int32) (x6 : Int32) (M : eM) (H : Heap) (locs : List Loc) (ls : Array Slot), k31 x1 x2 x3 x4 x5 x6 M = some res → ea_w E ids M s H locs → lv_has ls 8 [(0, .ref (E.1 0)), (1, .int x1), (2, .int x2), (3, .int x3), (4, .int x4), (5, .int x5), (6, .int x6)] → W p l e (ea_rm 5 129) s m args below meth cd H locs 0 0 (MQ below (ea_Qi E ids res) args s 0 0 (ea_Ad E ids)) (F0 m 31 ls [])) : ∀ (x1 : Int32) (x2 : Int32) (x3 : Int32) (x4 : Int32) (x6 : Int32) (t0 : Int32) (t1 : Int32) (M : eM) (H : Heap) (locs : List Loc) (ls : Array Slot), fX10_cannot_103 k31 x1 x2 x3 x4 x6 t0 t1 M = some res → ea_w E ids M s H locs → lv_has ls 8 [(0, .ref (E.1 0)), (1, .int x1), (2, .int x2), (3, .int x3), (4, .int x4), (6, .int x6)] → W p l e (ea_rm 5 129) s m args below meth cd H locs 0 0 (MQ below (ea_Qi E ids res) args s 0 0 (ea_Ad E ids)) (F0 m 103 ls [.int t0, .int t1]) := by
  intro x1 x2 x3 x4 x6 t0 t1 M H locs ls hf  hw hl
  replace hf := (fX10_cannot_103.eq_1 ..).symm.trans hf
  refine lv_iadd C.1 C.2.1 dX10_cannot_103 ?_
  refine lv_istore (lv' := [(5, .int (t1 + t0)), (0, .ref (E.1 0)), (1, .int x1), (2, .int x2), (3, .int x3), (4, .int x4), (6, .int x6)]) C.1 C.2.1 dX10_cannot_104 hl (by decide) rfl (fun ls hl => ?_)
  exact wX10_cannot_106 C hX hk31 _ _ _ _ _ _ _ _ _ _ hf hw (lv_sub hl [1, 2, 3, 4, 5, 0, 6] rfl)
set_option maxHeartbeats 4000000 in
set_option maxRecDepth 20000 in
theorem wX10_cannot_31 (C : ea_C p s m args meth cd cX10_cannot 8 (some .int) RX10) (hX : ea_X ids) : ∀ (n : Nat) (x1 : Int32) (x2 : Int32) (x3 : Int32) (x4 : Int32) (x5 : Int32) (x6 : Int32) (M : eM) (H : Heap) (locs : List Loc) (ls : Array Slot), fX10_cannot_31 n x1 x2 x3 x4 x5 x6 M = some res → ea_w E ids M s H locs → lv_has ls 8 [(0, .ref (E.1 0)), (1, .int x1), (2, .int x2), (3, .int x3), (4, .int x4), (5, .int x5), (6, .int x6)] → W p l e (ea_rm 5 129) s m args below meth cd H locs 0 0 (MQ below (ea_Qi E ids res) args s 0 0 (ea_Ad E ids)) (F0 m 31 ls []) := by
  intro n
  induction n with
  | zero => intro x1 x2 x3 x4 x5 x6 M H locs ls hf; cases hf
  | succ n ih =>
    intro x1 x2 x3 x4 x5 x6 M H locs ls hf  hw hl
    replace hf := (fX10_cannot_31.eq_2 ..).symm.trans hf
    refine lv_iload C.1 C.2.1 dX10_cannot_31 (lv_at hl 6 rfl) ?_
    refine lv_aload_n C.1 C.2.1 dX10_cannot_33 rfl (lv_at hl 0 rfl) ?_
    refine gf_X10_24 C hw (hX 0 10 rfl) dX10_cannot_34 ?_
    refine gf_X10_110 C hw (hX 4 9 rfl) dX10_cannot_37 ?_
    obtain ⟨hc1, hf⟩ := ea_ck_s hf
    obtain ⟨r3, M4, he2, hf⟩ := ea_ci_s hf
    refine ea_runi2 hw (cl_X10_296 C hw (ea_dyn hX hc1) (As := []) (rest := [.int x6]) (mX1_cells (l := l) (E := E) (ids := ids) hX (ea_dyn hX hc1) he2) (by decide) rfl hl.1 rfl (Nat.le_of_ble_eq_true rfl) dX10_cannot_40 ⟨Nat.le_refl _, Nat.le_refl _⟩) (fun H locs hw => ?_)
    refine lv_icmp_ge (tgt := 112) C.1 C.2.1 dX10_cannot_43 (by decide) (fun hc5 => ?_) (fun hc5 => ?_)
    · replace hf := ea_if_t hc5 hf
      refine lv_iload C.1 C.2.1 dX10_cannot_112 (lv_at hl 5 rfl) ?_
      exact ea_iret C hw hf dX10_cannot_114
    · replace hf := ea_if_f hc5 hf
      refine lv_aload_n C.1 C.2.1 dX10_cannot_46 rfl (lv_at hl 0 rfl) ?_
      refine gf_X10_44 C hw (hX 0 10 rfl) dX10_cannot_47 ?_
      refine lv_iload C.1 C.2.1 dX10_cannot_50 (lv_at hl 6 rfl) ?_
      refine lv_iconst (v := 0) C.1 C.2.1 dX10_cannot_52 (by decide) ?_
      refine lv_sipush (v := 999) C.1 C.2.1 dX10_cannot_53 (by decide) ?_
      obtain ⟨r7, M8, he6, hf⟩ := ea_ci_s hf
      refine ea_runi2 hw (cl_X10_228 C hw (hX 30 8 rfl) (As := [.int x6, .int (0 : Int32), .int (999 : Int32)]) (rest := []) (mX8_latestLook (l := l) (E := E) (ids := ids) hX (hX 30 8 rfl) he6) (by decide) rfl hl.1 rfl (Nat.le_of_ble_eq_true rfl) dX10_cannot_56 ⟨Nat.le_refl _, Nat.le_refl _⟩) (fun H locs hw => ?_)
      refine lv_istore (lv' := [(7, .int r7), (0, .ref (E.1 0)), (1, .int x1), (2, .int x2), (3, .int x3), (4, .int x4), (5, .int x5), (6, .int x6)]) C.1 C.2.1 dX10_cannot_59 hl (by decide) rfl (fun ls hl => ?_)
      refine lv_aload_n C.1 C.2.1 dX10_cannot_61 rfl (lv_at hl 1 rfl) ?_
      refine gf_X10_44 C hw (hX 0 10 rfl) dX10_cannot_62 ?_
      refine lv_iload C.1 C.2.1 dX10_cannot_65 (lv_at hl 0 rfl) ?_
      obtain ⟨r10, M11, he9, hf⟩ := ea_ci_s hf
      refine ea_runi2 hw (cl_X10_273 C hw (hX 30 8 rfl) (As := [.int r7]) (rest := []) (mX8_isSeen (l := l) (E := E) (ids := ids) hX (hX 30 8 rfl) he9) (by decide) rfl hl.1 rfl (Nat.le_of_ble_eq_true rfl) dX10_cannot_67 ⟨Nat.le_refl _, Nat.le_refl _⟩) (fun H locs hw => ?_)
      refine lv_if_eq (tgt := 106) C.1 C.2.1 dX10_cannot_70 (by decide) (fun hc12 => ?_) (fun hc12 => ?_)
      · replace hf := ea_if_t hc12 hf
        exact wX10_cannot_106 C hX ih _ _ _ _ _ _ _ _ _ _ hf hw (lv_sub hl [1, 2, 3, 4, 5, 6, 7] rfl)
      · replace hf := ea_if_f hc12 hf
        refine lv_aload_n C.1 C.2.1 dX10_cannot_73 rfl (lv_at hl 1 rfl) ?_
        refine lv_iload C.1 C.2.1 dX10_cannot_74 (lv_at hl 7 rfl) ?_
        refine lv_iload C.1 C.2.1 dX10_cannot_76 (lv_at hl 0 rfl) ?_
        refine lv_iload_n C.1 C.2.1 dX10_cannot_78 rfl (lv_at hl 2 rfl) ?_
        refine lv_iload_n C.1 C.2.1 dX10_cannot_79 rfl (lv_at hl 3 rfl) ?_
        refine lv_iload_n C.1 C.2.1 dX10_cannot_80 rfl (lv_at hl 4 rfl) ?_
        obtain ⟨M14, he13, hf⟩ := ea_cv_s hf
        refine ea_runv hw (cl_X10_325 C hw (hX 0 10 rfl) (As := [.int x6, .int r7, .int x1, .int x2, .int x3]) (rest := []) (mX10_throwLight (l := l) (E := E) (ids := ids) hX he13) (by decide) rfl hl.1 rfl (Nat.le_of_ble_eq_true rfl) dX10_cannot_81 ⟨Nat.le_refl _, Nat.le_refl _⟩) (fun H locs hw => ?_)
        refine lv_iload C.1 C.2.1 dX10_cannot_84 (lv_at hl 6 rfl) ?_
        refine lv_aload_n C.1 C.2.1 dX10_cannot_86 rfl (lv_at hl 1 rfl) ?_
        refine gf_X10_74 C hw (hX 0 10 rfl) dX10_cannot_87 ?_
        refine gf_X10_328 C hw (hX 72 6 rfl) dX10_cannot_90 ?_
        refine lv_iload C.1 C.2.1 dX10_cannot_93 (lv_at hl 5 rfl) ?_
        refine lv_icmp_le (tgt := 102) C.1 C.2.1 dX10_cannot_95 (by decide) (fun hc15 => ?_) (fun hc15 => ?_)
        · replace hf := ea_if_t hc15 hf
          refine lv_iconst (v := 0) C.1 C.2.1 dX10_cannot_102 (by decide) ?_
          exact wX10_cannot_103 C hX ih _ _ _ _ _ _ _ _ _ _ _ hf hw (lv_sub hl [1, 2, 3, 4, 5, 7] rfl)
        · replace hf := ea_if_f hc15 hf
          refine lv_iconst (v := 1) C.1 C.2.1 dX10_cannot_98 (by decide) ?_
          refine lv_goto (tgt := 103) C.1 C.2.1 dX10_cannot_99 (by decide) ?_
          exact wX10_cannot_103 C hX ih _ _ _ _ _ _ _ _ _ _ _ hf hw (lv_sub hl [1, 2, 3, 4, 5, 7] rfl)
set_option maxHeartbeats 4000000 in
set_option maxRecDepth 20000 in
theorem wX10_cannot_0 (C : ea_C p s m args meth cd cX10_cannot 8 (some .int) RX10) (hX : ea_X ids) : ∀ (x1 : Int32) (x2 : Int32) (x3 : Int32) (x4 : Int32) (M : eM) (H : Heap) (locs : List Loc) (ls : Array Slot), fX10_cannot_0 x1 x2 x3 x4 M = some res → ea_w E ids M s H locs → lv_has ls 8 [(0, .ref (E.1 0)), (1, .int x1), (2, .int x2), (3, .int x3), (4, .int x4)] → W p l e (ea_rm 5 129) s m args below meth cd H locs 0 0 (MQ below (ea_Qi E ids res) args s 0 0 (ea_Ad E ids)) (F0 m 0 ls []) := by
  intro x1 x2 x3 x4 M H locs ls hf  hw hl
  replace hf := (fX10_cannot_0.eq_1 ..).symm.trans hf
  refine lv_aload_n C.1 C.2.1 dX10_cannot_0 rfl (lv_at hl 0 rfl) ?_
  refine lv_iload_n C.1 C.2.1 dX10_cannot_1 rfl (lv_at hl 1 rfl) ?_
  refine lv_iload_n C.1 C.2.1 dX10_cannot_2 rfl (lv_at hl 2 rfl) ?_
  refine lv_iload_n C.1 C.2.1 dX10_cannot_3 rfl (lv_at hl 3 rfl) ?_
  obtain ⟨r2, M3, he1, hf⟩ := ea_ci_s hf
  refine ea_runi2 hw (cl_X10_322 C hw (hX 0 10 rfl) (As := [.int x1, .int x2, .int x3]) (rest := []) (mX10_mayThrow (l := l) (E := E) (ids := ids) hX he1) (by decide) rfl hl.1 rfl (Nat.le_of_ble_eq_true rfl) dX10_cannot_4 ⟨Nat.le_refl _, Nat.le_refl _⟩) (fun H locs hw => ?_)
  refine lv_if_eq (tgt := 22) C.1 C.2.1 dX10_cannot_7 (by decide) (fun hc4 => ?_) (fun hc4 => ?_)
  · replace hf := ea_if_t hc4 hf
    refine lv_bipush (v := (-2 : Int32)) C.1 C.2.1 dX10_cannot_22 (by decide) ?_
    exact ea_iret C hw hf dX10_cannot_24
  · replace hf := ea_if_f hc4 hf
    refine lv_iload C.1 C.2.1 dX10_cannot_10 (lv_at hl 4 rfl) ?_
    refine lv_iconst (v := 0) C.1 C.2.1 dX10_cannot_12 (by decide) ?_
    refine lv_sipush (v := 9999) C.1 C.2.1 dX10_cannot_13 (by decide) ?_
    obtain ⟨r6, M7, he5, hf⟩ := ea_ci_s hf
    refine ea_runi2 hw (cl_X10_133 C hw (As := [.int x4, .int (0 : Int32), .int (9999 : Int32)]) (rest := []) (mX10_isWithin (l := l) (E := E) (ids := ids) hX he5) (by decide) rfl hl.1 rfl (Nat.le_of_ble_eq_true rfl) dX10_cannot_16 ⟨Nat.le_refl _, Nat.le_refl _⟩) (fun H locs hw => ?_)
    refine lv_if_ne (tgt := 25) C.1 C.2.1 dX10_cannot_19 (by decide) (fun hc8 => ?_) (fun hc8 => ?_)
    · replace hf := ea_if_f hc8 hf
      refine lv_iconst (v := 0) C.1 C.2.1 dX10_cannot_25 (by decide) ?_
      refine lv_istore (lv' := [(5, .int (0 : Int32)), (0, .ref (E.1 0)), (1, .int x1), (2, .int x2), (3, .int x3), (4, .int x4)]) C.1 C.2.1 dX10_cannot_26 hl (by decide) rfl (fun ls hl => ?_)
      refine lv_iconst (v := 0) C.1 C.2.1 dX10_cannot_28 (by decide) ?_
      refine lv_istore (lv' := [(6, .int (0 : Int32)), (5, .int (0 : Int32)), (0, .ref (E.1 0)), (1, .int x1), (2, .int x2), (3, .int x3), (4, .int x4)]) C.1 C.2.1 dX10_cannot_29 hl (by decide) rfl (fun ls hl => ?_)
      exact wX10_cannot_31 C hX ea_N _ _ _ _ _ _ _ _ _ _ hf hw (lv_sub hl [2, 3, 4, 5, 6, 1, 0] rfl)
    · replace hf := ea_if_t hc8 hf
      refine lv_bipush (v := (-2 : Int32)) C.1 C.2.1 dX10_cannot_22 (by decide) ?_
      exact ea_iret C hw hf dX10_cannot_24
set_option maxHeartbeats 4000000 in
set_option maxRecDepth 20000 in
theorem mX10_cannot {l : Launch} {E : eE} {ids : List Nat} (hX : ea_X ids) {x1 : Int32} {x2 : Int32} {x3 : Int32} {x4 : Int32} {M : eM} {res : Int32 × eM} (hf : fX10_cannot x1 x2 x3 x4 M = some res) : ea_Mi l yX10_cannot cX10_cannot 8 (some .int) 5 129 E ids [.ref (E.1 0), .int x1, .int x2, .int x3, .int x4] M res := by
  refine ea_goi (by decide) (Nat.le_of_ble_eq_true rfl) wc_X10_cannot ?_
  intro p e s m below meth cd ls C hw hl
  exact wX10_cannot_0 C hX _ _ _ _ _ _ _ _ hf hw hl
end SX10_cannot

def fX1_clear_0 (a0 : Nat) (M : eM) : Option (eM) := ea_cv (fJ7_fill_53178 (a0 + 1) (100 : Int32) (ea_pI (ea_pI (ea_pI (ea_pI (ea_pI M a0 0 (4 : Int32)) a0 1 (3 : Int32)) a0 2 (0 : Int32)) a0 3 (2 : Int32)) a0 4 (0 : Int32))) (fun M2 => some (ea_pI (ea_pI (ea_pI (ea_pI M2 a0 6 (0 : Int32)) a0 8 (0 : Int32)) a0 11 (0 : Int32)) a0 15 (0 : Int32)))
def fX1_clear (a0 : Nat) (M : eM) : Option (eM) := fX1_clear_0 a0 M
section SX1_clear
variable {p : Program} {l : Launch} {e : Env} {s : State} {m : MethodId} {args : Array Value} {below : List Frame} {meth : Method} {cd : Code} {E : eE} {ids : List Nat} {res : eM} {a0 : Nat}
set_option maxHeartbeats 4000000 in
set_option maxRecDepth 20000 in
theorem wX1_clear_0 (C : ea_C p s m args meth cd cX1_clear 1 none RX1) (ho0 : ea_ok ids a0 1) : ∀  (M : eM) (H : Heap) (locs : List Loc) (ls : Array Slot), fX1_clear_0 a0 M = some res → ea_w E ids M s H locs → lv_has ls 1 [(0, .ref (E.1 a0))] → W p l e (ea_rm 1 23) s m args below meth cd H locs 0 0 (MQ below (ea_Qv E ids res) args s 0 0 (ea_Ad E ids)) (F0 m 0 ls []) := by
  intro M H locs ls hf  hw hl
  replace hf := (fX1_clear_0.eq_1 ..).symm.trans hf
  refine lv_aload_n C.1 C.2.1 dX1_clear_0 rfl (lv_at hl 0 rfl) ?_
  refine lv_iconst (v := 4) C.1 C.2.1 dX1_clear_1 (by decide) ?_
  refine pu_X1_43 C hw ho0 dX1_clear_2 (fun H locs hw => ?_)
  refine lv_aload_n C.1 C.2.1 dX1_clear_5 rfl (lv_at hl 0 rfl) ?_
  refine lv_iconst (v := 3) C.1 C.2.1 dX1_clear_6 (by decide) ?_
  refine pu_X1_47 C hw ho0 dX1_clear_7 (fun H locs hw => ?_)
  refine lv_aload_n C.1 C.2.1 dX1_clear_10 rfl (lv_at hl 0 rfl) ?_
  refine lv_iconst (v := 0) C.1 C.2.1 dX1_clear_11 (by decide) ?_
  refine pu_X1_50 C hw ho0 dX1_clear_12 (fun H locs hw => ?_)
  refine lv_aload_n C.1 C.2.1 dX1_clear_15 rfl (lv_at hl 0 rfl) ?_
  refine lv_iconst (v := 2) C.1 C.2.1 dX1_clear_16 (by decide) ?_
  refine pu_X1_53 C hw ho0 dX1_clear_17 (fun H locs hw => ?_)
  refine lv_aload_n C.1 C.2.1 dX1_clear_20 rfl (lv_at hl 0 rfl) ?_
  refine lv_iconst (v := 0) C.1 C.2.1 dX1_clear_21 (by decide) ?_
  refine pu_X1_56 C hw ho0 dX1_clear_22 (fun H locs hw => ?_)
  refine lv_aload_n C.1 C.2.1 dX1_clear_25 rfl (lv_at hl 0 rfl) ?_
  refine gf_X1_9 C hw ho0 dX1_clear_26 ?_
  refine lv_bipush (v := 100) C.1 C.2.1 dX1_clear_29 (by decide) ?_
  obtain ⟨M2, he1, hf⟩ := ea_cv_s hf
  refine ea_runv hw (cl_X1_59 C hw (As := [.ref (E.1 (a0 + 1)), .int (100 : Int32)]) (rest := []) (mJ7_fill_53178 (l := l) (E := E) (ids := ids) (ok_1_5 ho0) he1) (by decide) rfl hl.1 rfl (Nat.le_of_ble_eq_true rfl) dX1_clear_31 ⟨Nat.le_refl _, Nat.le_refl _⟩) (fun H locs hw => ?_)
  refine lv_aload_n C.1 C.2.1 dX1_clear_34 rfl (lv_at hl 0 rfl) ?_
  refine lv_iconst (v := 0) C.1 C.2.1 dX1_clear_35 (by decide) ?_
  refine pu_X1_65 C hw ho0 dX1_clear_36 (fun H locs hw => ?_)
  refine lv_aload_n C.1 C.2.1 dX1_clear_39 rfl (lv_at hl 0 rfl) ?_
  refine lv_iconst (v := 0) C.1 C.2.1 dX1_clear_40 (by decide) ?_
  refine pu_X1_68 C hw ho0 dX1_clear_41 (fun H locs hw => ?_)
  refine lv_aload_n C.1 C.2.1 dX1_clear_44 rfl (lv_at hl 0 rfl) ?_
  refine lv_iconst (v := 0) C.1 C.2.1 dX1_clear_45 (by decide) ?_
  refine pu_X1_71 C hw ho0 dX1_clear_46 (fun H locs hw => ?_)
  refine lv_aload_n C.1 C.2.1 dX1_clear_49 rfl (lv_at hl 0 rfl) ?_
  refine lv_iconst (v := 0) C.1 C.2.1 dX1_clear_50 (by decide) ?_
  refine pu_X1_74 C hw ho0 dX1_clear_51 (fun H locs hw => ?_)
  exact ea_vret C hw hf dX1_clear_54
set_option maxHeartbeats 4000000 in
set_option maxRecDepth 20000 in
theorem mX1_clear {l : Launch} {E : eE} {ids : List Nat} {a0 : Nat} (ho0 : ea_ok ids a0 1) {M : eM} {res : eM} (hf : fX1_clear a0 M = some res) : ea_Mv l yX1_clear cX1_clear 1 1 23 E ids [.ref (E.1 a0)] M res := by
  refine ea_gov (by decide) (Nat.le_of_ble_eq_true rfl) wc_X1_clear ?_
  intro p e s m below meth cd ls C hw hl
  exact wX1_clear_0 C ho0  _ _ _ _ hf hw hl
end SX1_clear
