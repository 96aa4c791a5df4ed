def fX2_begin_0 (a1 : Nat) (M : eM) : Option (eM) := ea_ck (ea_is ((ea_pR M 3 3 a1).2.2 3 3) 1) (ea_cv (fX1_clear ((ea_pR M 3 3 a1).2.2 3 3) (ea_pR M 3 3 a1)) (fun M3 => some (ea_pI (ea_pI (ea_pI (ea_pI M3 3 4 (0 : Int32)) 3 5 (0 : Int32)) 3 0 (0 : Int32)) 3 1 (-1 : Int32))))
def fX2_begin (a1 : Nat) (M : eM) : Option (eM) := fX2_begin_0 a1 M
section SX2_begin
variable {p : Program} {l : Launch} {e : Env} {s : State} {m : MethodId} {args : Array Value} {below : List Frame} {meth : Method} {cd : Code} {E : eE} {ids : List Nat} {res : eM} {a1 : Nat}
set_option maxHeartbeats 4000000 in
set_option maxRecDepth 20000 in
theorem wX2_begin_0 (C : ea_C p s m args meth cd cX2_begin 2 none RX2) (hX : ea_X ids) (ho1 : ea_ok ids a1 1) : ∀  (M : eM) (H : Heap) (locs : List Loc) (ls : Array Slot), fX2_begin_0 a1 M = some res → ea_w E ids M s H locs → lv_has ls 2 [(0, .ref (E.1 3)), (1, .ref (E.1 a1))] → W p l e (ea_rm 2 43) s m args below meth cd H locs 0 0 (MQ below (ea_Qv E ids res) args s 0 0 (ea_Ad E ids)) (F0 m 0 ls []) := by
  intro M H locs ls hf  hw hl
  replace hf := (fX2_begin_0.eq_1 ..).symm.trans hf
  refine lv_aload_n C.1 C.2.1 dX2_begin_0 rfl (lv_at hl 0 rfl) ?_
  refine lv_aload_n C.1 C.2.1 dX2_begin_1 rfl (lv_at hl 1 rfl) ?_
  refine pu_X2_22 C hw (hX 3 2 rfl) dX2_begin_2 (fun H locs hw => ?_)
  refine lv_aload_n C.1 C.2.1 dX2_begin_5 rfl (lv_at hl 0 rfl) ?_
  refine gf_X2_22 C hw (hX 3 2 rfl) dX2_begin_6 ?_
  obtain ⟨hc1, hf⟩ := ea_ck_s hf
  obtain ⟨M3, he2, hf⟩ := ea_cv_s hf
  refine ea_runv hw (cl_X2_26 C hw (ea_dyn hX hc1) (As := []) (rest := []) (mX1_clear (l := l) (E := E) (ids := ids) (ea_dyn hX hc1) he2) (by decide) rfl hl.1 rfl (Nat.le_of_ble_eq_true rfl) dX2_begin_9 ⟨Nat.le_refl _, Nat.le_refl _⟩) (fun H locs hw => ?_)
  refine lv_aload_n C.1 C.2.1 dX2_begin_12 rfl (lv_at hl 0 rfl) ?_
  refine lv_iconst (v := 0) C.1 C.2.1 dX2_begin_13 (by decide) ?_
  refine pu_X2_31 C hw (hX 3 2 rfl) dX2_begin_14 (fun H locs hw => ?_)
  refine lv_aload_n C.1 C.2.1 dX2_begin_17 rfl (lv_at hl 0 rfl) ?_
  refine lv_iconst (v := 0) C.1 C.2.1 dX2_begin_18 (by decide) ?_
  refine pu_X2_34 C hw (hX 3 2 rfl) dX2_begin_19 (fun H locs hw => ?_)
  refine lv_aload_n C.1 C.2.1 dX2_begin_22 rfl (lv_at hl 0 rfl) ?_
  refine lv_iconst (v := 0) C.1 C.2.1 dX2_begin_23 (by decide) ?_
  refine pu_X2_9 C hw (hX 3 2 rfl) dX2_begin_24 (fun H locs hw => ?_)
  refine lv_aload_n C.1 C.2.1 dX2_begin_27 rfl (lv_at hl 0 rfl) ?_
  refine lv_iconst (v := (-1 : Int32)) C.1 C.2.1 dX2_begin_28 (by decide) ?_
  refine pu_X2_15 C hw (hX 3 2 rfl) dX2_begin_29 (fun H locs hw => ?_)
  exact ea_vret C hw hf dX2_begin_32
set_option maxHeartbeats 4000000 in
set_option maxRecDepth 20000 in
theorem mX2_begin {l : Launch} {E : eE} {ids : List Nat} (hX : ea_X ids) {a1 : Nat} (ho1 : ea_ok ids a1 1) {M : eM} {res : eM} (hf : fX2_begin a1 M = some res) : ea_Mv l yX2_begin cX2_begin 2 2 43 E ids [.ref (E.1 3), .ref (E.1 a1)] M res := by
  refine ea_gov (by decide) (Nat.le_of_ble_eq_true rfl) wc_X2_begin ?_
  intro p e s m below meth cd ls C hw hl
  exact wX2_begin_0 C hX ho1  _ _ _ _ hf hw hl
end SX2_begin

def fX2_isBlankByte_12 (M : eM) : Option (Int32 × eM) := some ((1 : Int32), M)
def fX2_isBlankByte_0 (x0 : Int32) (M : eM) : Option (Int32 × eM) := if x0 = (32 : Int32) then (fX2_isBlankByte_12 M) else (if x0 = (10 : Int32) then (fX2_isBlankByte_12 M) else (some ((0 : Int32), M)))
def fX2_isBlankByte (x0 : Int32) (M : eM) : Option (Int32 × eM) := fX2_isBlankByte_0 x0 M
section SX2_isBlankByte
variable {p : Program} {l : Launch} {e : Env} {s : State} {m : MethodId} {args : Array Value} {below : List Frame} {meth : Method} {cd : Code} {E : eE} {ids : List Nat} {res : Int32 × eM}
set_option maxHeartbeats 4000000 in
set_option maxRecDepth 20000 in
theorem wX2_isBlankByte_12 (C : ea_C p s m args meth cd cX2_isBlankByte 1 (some .boolean) RX2) (hX : ea_X ids) : ∀  (M : eM) (H : Heap) (locs : List Loc) (ls : Array Slot), fX2_isBlankByte_12 M = some res → ea_w E ids M s H locs → lv_has ls 1 [] → W p l e (ea_rm 0 0) s m args below meth cd H locs 0 0 (MQ below (ea_Qi E ids res) args s 0 0 (ea_Ad E ids)) (F0 m 12 ls []) := by
  intro M H locs ls hf  hw hl
  replace hf := (fX2_isBlankByte_12.eq_1 ..).symm.trans hf
  refine lv_iconst (v := 1) C.1 C.2.1 dX2_isBlankByte_12 (by decide) ?_
  refine lv_goto (tgt := 17) C.1 C.2.1 dX2_isBlankByte_13 (by decide) ?_
  exact ea_zret C hw (by decide) hf dX2_isBlankByte_17
set_option maxHeartbeats 4000000 in
set_option maxRecDepth 20000 in
theorem wX2_isBlankByte_0 (C : ea_C p s m args meth cd cX2_isBlankByte 1 (some .boolean) RX2) (hX : ea_X ids) : ∀ (x0 : Int32) (M : eM) (H : Heap) (locs : List Loc) (ls : Array Slot), fX2_isBlankByte_0 x0 M = some res → ea_w E ids M s H locs → lv_has ls 1 [(0, .int x0)] → W p l e (ea_rm 0 0) s m args below meth cd H locs 0 0 (MQ below (ea_Qi E ids res) args s 0 0 (ea_Ad E ids)) (F0 m 0 ls []) := by
  intro x0 M H locs ls hf  hw hl
  replace hf := (fX2_isBlankByte_0.eq_1 ..).symm.trans hf
  refine lv_iload_n C.1 C.2.1 dX2_isBlankByte_0 rfl (lv_at hl 0 rfl) ?_
  refine lv_bipush (v := 32) C.1 C.2.1 dX2_isBlankByte_1 (by decide) ?_
  refine lv_icmp_eq (tgt := 12) C.1 C.2.1 dX2_isBlankByte_3 (by decide) (fun hc1 => ?_) (fun hc1 => ?_)
  · replace hf := ea_if_t hc1 hf
    exact wX2_isBlankByte_12 C hX _ _ _ _ hf hw (lv_sub hl [] rfl)
  · replace hf := ea_if_f hc1 hf
    refine lv_iload_n C.1 C.2.1 dX2_isBlankByte_6 rfl (lv_at hl 0 rfl) ?_
    refine lv_bipush (v := 10) C.1 C.2.1 dX2_isBlankByte_7 (by decide) ?_
    refine lv_icmp_ne (tgt := 16) C.1 C.2.1 dX2_isBlankByte_9 (by decide) (fun hc2 => ?_) (fun hc2 => ?_)
    · replace hf := ea_if_f hc2 hf
      refine lv_iconst (v := 0) C.1 C.2.1 dX2_isBlankByte_16 (by decide) ?_
      exact ea_zret C hw (by decide) hf dX2_isBlankByte_17
    · replace hf := ea_if_t hc2 hf
      exact wX2_isBlankByte_12 C hX _ _ _ _ hf hw (lv_sub hl [] rfl)
set_option maxHeartbeats 4000000 in
set_option maxRecDepth 20000 in
theorem mX2_isBlankByte {l : Launch} {E : eE} {ids : List Nat} (hX : ea_X ids) {x0 : Int32} {M : eM} {res : Int32 × eM} (hf : fX2_isBlankByte x0 M = some res) : ea_Mi l yX2_isBlankByte cX2_isBlankByte 1 (some .boolean) 0 0 E ids [.int x0] M res := by
  refine ea_goi (by decide) (Nat.le_of_ble_eq_true rfl) wc_X2_isBlankByte ?_
  intro p e s m below meth cd ls C hw hl
  exact wX2_isBlankByte_0 C hX _ _ _ _ _ hf hw hl
end SX2_isBlankByte

def fX2_isDigit_0 (x0 : Int32) (M : eM) : Option (Int32 × eM) := if x0 < (48 : Int32) then (some ((0 : Int32), M)) else (if (57 : Int32) < x0 then (some ((0 : Int32), M)) else (some ((1 : Int32), M)))
def fX2_isDigit (x0 : Int32) (M : eM) : Option (Int32 × eM) := fX2_isDigit_0 x0 M
section SX2_isDigit
variable {p : Program} {l : Launch} {e : Env} {s : State} {m : MethodId} {args : Array Value} {below : List Frame} {meth : Method} {cd : Code} {E : eE} {ids : List Nat} {res : Int32 × eM}
set_option maxHeartbeats 4000000 in
set_option maxRecDepth 20000 in
theorem wX2_isDigit_0 (C : ea_C p s m args meth cd cX2_isDigit 1 (some .boolean) RX2) (hX : ea_X ids) : ∀ (x0 : Int32) (M : eM) (H : Heap) (locs : List Loc) (ls : Array Slot), fX2_isDigit_0 x0 M = some res → ea_w E ids M s H locs → lv_has ls 1 [(0, .int x0)] → W p l e (ea_rm 0 0) s m args below meth cd H locs 0 0 (MQ below (ea_Qi E ids res) args s 0 0 (ea_Ad E ids)) (F0 m 0 ls []) := by
  intro x0 M H locs ls hf  hw hl
  replace hf := (fX2_isDigit_0.eq_1 ..).symm.trans hf
  refine lv_iload_n C.1 C.2.1 dX2_isDigit_0 rfl (lv_at hl 0 rfl) ?_
  refine lv_bipush (v := 48) C.1 C.2.1 dX2_isDigit_1 (by decide) ?_
  refine lv_icmp_lt (tgt := 16) C.1 C.2.1 dX2_isDigit_3 (by decide) (fun hc1 => ?_) (fun hc1 => ?_)
  · replace hf := ea_if_t hc1 hf
    refine lv_iconst (v := 0) C.1 C.2.1 dX2_isDigit_16 (by decide) ?_
    exact ea_zret C hw (by decide) hf dX2_isDigit_17
  · replace hf := ea_if_f hc1 hf
    refine lv_iload_n C.1 C.2.1 dX2_isDigit_6 rfl (lv_at hl 0 rfl) ?_
    refine lv_bipush (v := 57) C.1 C.2.1 dX2_isDigit_7 (by decide) ?_
    refine lv_icmp_gt (tgt := 16) C.1 C.2.1 dX2_isDigit_9 (by decide) (fun hc2 => ?_) (fun hc2 => ?_)
    · replace hf := ea_if_t hc2 hf
      refine lv_iconst (v := 0) C.1 C.2.1 dX2_isDigit_16 (by decide) ?_
      exact ea_zret C hw (by decide) hf dX2_isDigit_17
    · replace hf := ea_if_f hc2 hf
      refine lv_iconst (v := 1) C.1 C.2.1 dX2_isDigit_12 (by decide) ?_
      refine lv_goto (tgt := 17) C.1 C.2.1 dX2_isDigit_13 (by decide) ?_
      exact ea_zret C hw (by decide) hf dX2_isDigit_17
set_option maxHeartbeats 4000000 in
set_option maxRecDepth 20000 in
theorem mX2_isDigit {l : Launch} {E : eE} {ids : List Nat} (hX : ea_X ids) {x0 : Int32} {M : eM} {res : Int32 × eM} (hf : fX2_isDigit x0 M = some res) : ea_Mi l yX2_isDigit cX2_isDigit 1 (some .boolean) 0 0 E ids [.int x0] M res := by
  refine ea_goi (by decide) (Nat.le_of_ble_eq_true rfl) wc_X2_isDigit ?_
  intro p e s m below meth cd ls C hw hl
  exact wX2_isDigit_0 C hX _ _ _ _ _ hf hw hl
end SX2_isDigit

def fX2_isLetter_0 (x0 : Int32) (M : eM) : Option (Int32 × eM) := if x0 < (97 : Int32) then (some ((0 : Int32), M)) else (if (122 : Int32) < x0 then (some ((0 : Int32), M)) else (some ((1 : Int32), M)))
def fX2_isLetter (x0 : Int32) (M : eM) : Option (Int32 × eM) := fX2_isLetter_0 x0 M
section SX2_isLetter
variable {p : Program} {l : Launch} {e : Env} {s : State} {m : MethodId} {args : Array Value} {below : List Frame} {meth : Method} {cd : Code} {E : eE} {ids : List Nat} {res : Int32 × eM}
set_option maxHeartbeats 4000000 in
set_option maxRecDepth 20000 in
theorem wX2_isLetter_0 (C : ea_C p s m args meth cd cX2_isLetter 1 (some .boolean) RX2) (hX : ea_X ids) : ∀ (x0 : Int32) (M : eM) (H : Heap) (locs : List Loc) (ls : Array Slot), fX2_isLetter_0 x0 M = some res → ea_w E ids M s H locs → lv_has ls 1 [(0, .int x0)] → W p l e (ea_rm 0 0) s m args below meth cd H locs 0 0 (MQ below (ea_Qi E ids res) args s 0 0 (ea_Ad E ids)) (F0 m 0 ls []) := by
  intro x0 M H locs ls hf  hw hl
  replace hf := (fX2_isLetter_0.eq_1 ..).symm.trans hf
  refine lv_iload_n C.1 C.2.1 dX2_isLetter_0 rfl (lv_at hl 0 rfl) ?_
  refine lv_bipush (v := 97) C.1 C.2.1 dX2_isLetter_1 (by decide) ?_
  refine lv_icmp_lt (tgt := 16) C.1 C.2.1 dX2_isLetter_3 (by decide) (fun hc1 => ?_) (fun hc1 => ?_)
  · replace hf := ea_if_t hc1 hf
    refine lv_iconst (v := 0) C.1 C.2.1 dX2_isLetter_16 (by decide) ?_
    exact ea_zret C hw (by decide) hf dX2_isLetter_17
  · replace hf := ea_if_f hc1 hf
    refine lv_iload_n C.1 C.2.1 dX2_isLetter_6 rfl (lv_at hl 0 rfl) ?_
    refine lv_bipush (v := 122) C.1 C.2.1 dX2_isLetter_7 (by decide) ?_
    refine lv_icmp_gt (tgt := 16) C.1 C.2.1 dX2_isLetter_9 (by decide) (fun hc2 => ?_) (fun hc2 => ?_)
    · replace hf := ea_if_t hc2 hf
      refine lv_iconst (v := 0) C.1 C.2.1 dX2_isLetter_16 (by decide) ?_
      exact ea_zret C hw (by decide) hf dX2_isLetter_17
    · replace hf := ea_if_f hc2 hf
      refine lv_iconst (v := 1) C.1 C.2.1 dX2_isLetter_12 (by decide) ?_
      refine lv_goto (tgt := 17) C.1 C.2.1 dX2_isLetter_13 (by decide) ?_
      exact ea_zret C hw (by decide) hf dX2_isLetter_17
set_option maxHeartbeats 4000000 in
set_option maxRecDepth 20000 in
theorem mX2_isLetter {l : Launch} {E : eE} {ids : List Nat} (hX : ea_X ids) {x0 : Int32} {M : eM} {res : Int32 × eM} (hf : fX2_isLetter x0 M = some res) : ea_Mi l yX2_isLetter cX2_isLetter 1 (some .boolean) 0 0 E ids [.int x0] M res := by
  refine ea_goi (by decide) (Nat.le_of_ble_eq_true rfl) wc_X2_isLetter ?_
  intro p e s m below meth cd ls C hw hl
  exact wX2_isLetter_0 C hX _ _ _ _ _ hf hw hl
end SX2_isLetter

def fX2_advance_16 (k49 : Int32 → eM → Option (eM)) : Nat → Int32 → eM → Option (eM)
  | 0, _, _ => none
  | n + 1, x2, M => if x2 ≤ (M.1 3 4) then (k49 x2 M) else (ea_ck (ea_ix (M.1 3 4) (ea_len 2)) (ea_ci (fX2_isBlankByte (M.1 2 (M.1 3 4).toNatClampNeg) M) (fun r4 M5 => if r4 = 0 then (k49 x2 M5) else (fX2_advance_16 k49 n x2 (ea_pI M5 3 4 ((M5.1 3 4) + (1 : Int32)))))))
def fX2_advance_90 (k148 : eM → Option (eM)) : Nat → Int32 → eM → Option (eM)
  | 0, _, _ => none
  | n + 1, x2, M => if x2 ≤ (M.1 3 4) then (k148 M) else (ea_ck (ea_ix (M.1 3 4) (ea_len 2)) (ea_ci (fX2_isLetter (M.1 2 (M.1 3 4).toNatClampNeg) M) (fun r4 M5 => if r4 = 0 then (k148 M5) else (ea_ck (ea_ix (M5.1 3 4) (ea_len 2)) (fX2_advance_90 k148 n x2 (ea_pI (ea_pL M5 3 9 (((M5.2.1 3 9) * (27 : Int64)) + ((((M5.1 2 (M5.1 3 4).toNatClampNeg) - (97 : Int32)) + (1 : Int32)).toInt64))) 3 4 (((ea_pL M5 3 9 (((M5.2.1 3 9) * (27 : Int64)) + ((((M5.1 2 (M5.1 3 4).toNatClampNeg) - (97 : Int32)) + (1 : Int32)).toInt64))).1 3 4) + (1 : Int32))))))))
def fX2_advance_168 (t0 : Int32) (M : eM) : Option (eM) := some (ea_pI M 3 6 t0)
def fX2_advance_148 (M : eM) : Option (eM) := if (8 : Int32) < ((M.1 3 4) - (M.1 3 7)) then (fX2_advance_168 (4 : Int32) M) else (fX2_advance_168 (1 : Int32) M)
def fX2_advance_191 (k245 : eM → Option (eM)) : Nat → Int32 → eM → Option (eM)
  | 0, _, _ => none
  | n + 1, x2, M => if x2 ≤ (M.1 3 4) then (k245 M) else (ea_ck (ea_ix (M.1 3 4) (ea_len 2)) (ea_ci (fX2_isDigit (M.1 2 (M.1 3 4).toNatClampNeg) M) (fun r4 M5 => if r4 = 0 then (k245 M5) else (ea_ck (ea_ix (M5.1 3 4) (ea_len 2)) (fX2_advance_191 k245 n x2 (ea_pI (ea_pI M5 3 8 (((M5.1 3 8) * (10 : Int32)) + ((M5.1 2 (M5.1 3 4).toNatClampNeg) - (48 : Int32)))) 3 4 (((ea_pI M5 3 8 (((M5.1 3 8) * (10 : Int32)) + ((M5.1 2 (M5.1 3 4).toNatClampNeg) - (48 : Int32)))).1 3 4) + (1 : Int32))))))))
def fX2_advance_264 (t0 : Int32) (M : eM) : Option (eM) := some (ea_pI M 3 6 t0)
def fX2_advance_245 (M : eM) : Option (eM) := if (4 : Int32) < ((M.1 3 4) - (M.1 3 7)) then (fX2_advance_264 (4 : Int32) M) else (fX2_advance_264 (2 : Int32) M)
def fX2_advance_287 (t0 : Int32) (M : eM) : Option (eM) := some (ea_pI (ea_pI M 3 6 t0) 3 4 (((ea_pI M 3 6 t0).1 3 4) + (1 : Int32)))
def fX2_advance_49 (x2 : Int32) (M : eM) : Option (eM) := if ((ea_pI M 3 7 (M.1 3 4)).1 3 4) < x2 then (ea_ck (ea_ix ((ea_pI M 3 7 (M.1 3 4)).1 3 4) (ea_len 2)) (ea_ci (fX2_isLetter ((ea_pI M 3 7 (M.1 3 4)).1 2 ((ea_pI M 3 7 (M.1 3 4)).1 3 4).toNatClampNeg) (ea_pI M 3 7 (M.1 3 4))) (fun r4 M5 => if r4 = 0 then (ea_ck (ea_ix (M5.1 3 4) (ea_len 2)) (ea_ci (fX2_isDigit (M5.1 2 (M5.1 3 4).toNatClampNeg) M5) (fun r9 M10 => if r9 = 0 then (ea_ck (ea_ix (M10.1 3 4) (ea_len 2)) (if (M10.1 2 (M10.1 3 4).toNatClampNeg) = (59 : Int32) then (fX2_advance_287 (3 : Int32) M10) else (fX2_advance_287 (4 : Int32) M10))) else (fX2_advance_191 (fX2_advance_245) ea_N x2 (ea_pI M10 3 8 (0 : Int32)))))) else (fX2_advance_90 (fX2_advance_148) ea_N x2 (ea_pL M5 3 9 (0 : Int64)))))) else (some (ea_pI (ea_pI M 3 7 (M.1 3 4)) 3 6 (0 : Int32)))
def fX2_advance_0 (M : eM) : Option (eM) := fX2_advance_16 (fX2_advance_49) ea_N (M.1 1 1) M
def fX2_advance (M : eM) : Option (eM) := fX2_advance_0 M
section SX2_advance
variable {p : Program} {l : Launch} {e : Env} {s : State} {m : MethodId} {args : Array Value} {below : List Frame} {meth : Method} {cd : Code} {E : eE} {ids : List Nat} {res : eM}
set_option maxHeartbeats 4000000 in
set_option maxRecDepth 20000 in
theorem wX2_advance_16 (C : ea_C p s m args meth cd cX2_advance 3 none RX2) (hX : ea_X ids) {k49 : Int32 → eM → Option (eM)} (hk49 : ∀ (x2 : Int32) (M : eM) (H : Heap) (locs : List Loc) (ls : Array Slot), k49 x2 M = some res → ea_w E ids M s H locs → lv_has ls 3 [(0, .ref (E.1 3)), (1, .ref (E.1 2)), (2, .int x2)] → W p l e (ea_rm 1 20) s m args below meth cd H locs 0 0 (MQ below (ea_Qv E ids res) args s 0 0 (ea_Ad E ids)) (F0 m 49 ls [])) : ∀ (n : Nat) (x2 : Int32) (M : eM) (H : Heap) (locs : List Loc) (ls : Array Slot), fX2_advance_16 k49 n x2 M = some res → ea_w E ids M s H locs → lv_has ls 3 [(0, .ref (E.1 3)), (1, .ref (E.1 2)), (2, .int x2)] → W p l e (ea_rm 1 20) s m args below meth cd H locs 0 0 (MQ below (ea_Qv E ids res) args s 0 0 (ea_Ad E ids)) (F0 m 16 ls []) := by
  intro n
  induction n with
  | zero => intro x2 M H locs ls hf; cases hf
  | succ n ih =>
    intro x2 M H locs ls hf  hw hl
    replace hf := (fX2_advance_16.eq_2 ..).symm.trans hf
    refine lv_aload_n C.1 C.2.1 dX2_advance_16 rfl (lv_at hl 0 rfl) ?_
    refine gf_X2_31 C hw (hX 3 2 rfl) dX2_advance_17 ?_
    refine lv_iload_n C.1 C.2.1 dX2_advance_20 rfl (lv_at hl 2 rfl) ?_
    refine lv_icmp_ge (tgt := 49) C.1 C.2.1 dX2_advance_21 (by decide) (fun hc1 => ?_) (fun hc1 => ?_)
    · replace hf := ea_if_t hc1 hf
      exact hk49 _ _ _ _ _ hf hw (lv_sub hl [0, 1, 2] rfl)
    · replace hf := ea_if_f hc1 hf
      refine lv_aload_n C.1 C.2.1 dX2_advance_24 rfl (lv_at hl 1 rfl) ?_
      refine lv_aload_n C.1 C.2.1 dX2_advance_25 rfl (lv_at hl 0 rfl) ?_
      refine gf_X2_31 C hw (hX 3 2 rfl) dX2_advance_26 ?_
      obtain ⟨hc2, hf⟩ := ea_ck_s hf
      refine ea_bald C hw (show ea_ok ids 2 22 from ok_7_0 (hX 1 7 rfl)) hc2 dX2_advance_29 ?_
      obtain ⟨r4, M5, he3, hf⟩ := ea_ci_s hf
      refine ea_runi2 hw (cl_X2_55 C hw (As := [.int (M.1 2 (M.1 3 4).toNatClampNeg)]) (rest := []) (mX2_isBlankByte (l := l) (E := E) (ids := ids) hX he3) (by decide) rfl hl.1 rfl (Nat.le_of_ble_eq_true rfl) dX2_advance_30 ⟨Nat.le_refl _, Nat.le_refl _⟩) (fun H locs hw => ?_)
      refine lv_if_eq (tgt := 49) C.1 C.2.1 dX2_advance_33 (by decide) (fun hc6 => ?_) (fun hc6 => ?_)
      · replace hf := ea_if_t hc6 hf
        exact hk49 _ _ _ _ _ hf hw (lv_sub hl [0, 1, 2] rfl)
      · replace hf := ea_if_f hc6 hf
        refine lv_aload_n C.1 C.2.1 dX2_advance_36 rfl (lv_at hl 0 rfl) ?_
        refine lv_dup C.1 C.2.1 dX2_advance_37 rfl ?_
        refine gf_X2_31 C hw (hX 3 2 rfl) dX2_advance_38 ?_
        refine lv_iconst (v := 1) C.1 C.2.1 dX2_advance_41 (by decide) ?_
        refine lv_iadd C.1 C.2.1 dX2_advance_42 ?_
        refine pu_X2_31 C hw (hX 3 2 rfl) dX2_advance_43 (fun H locs hw => ?_)
        refine lv_goto (tgt := 16) C.1 C.2.1 dX2_advance_46 (by decide) ?_
        exact ih _ _ _ _ _ hf hw (lv_sub hl [0, 1, 2] rfl)
set_option maxHeartbeats 4000000 in
set_option maxRecDepth 20000 in
theorem wX2_advance_90 (C : ea_C p s m args meth cd cX2_advance 3 none RX2) (hX : ea_X ids) {k148 : eM → Option (eM)} (hk148 : ∀  (M : eM) (H : Heap) (locs : List Loc) (ls : Array Slot), k148 M = some res → ea_w E ids M s H locs → lv_has ls 3 [(0, .ref (E.1 3))] → W p l e (ea_rm 1 20) s m args below meth cd H locs 0 0 (MQ below (ea_Qv E ids res) args s 0 0 (ea_Ad E ids)) (F0 m 148 ls [])) : ∀ (n : Nat) (x2 : Int32) (M : eM) (H : Heap) (locs : List Loc) (ls : Array Slot), fX2_advance_90 k148 n x2 M = some res → ea_w E ids M s H locs → lv_has ls 3 [(0, .ref (E.1 3)), (1, .ref (E.1 2)), (2, .int x2)] → W p l e (ea_rm 1 20) s m args below meth cd H locs 0 0 (MQ below (ea_Qv E ids res) args s 0 0 (ea_Ad E ids)) (F0 m 90 ls []) := by
  intro n
  induction n with
  | zero => intro x2 M H locs ls hf; cases hf
  | succ n ih =>
    intro x2 M H locs ls hf  hw hl
    replace hf := (fX2_advance_90.eq_2 ..).symm.trans hf
    refine lv_aload_n C.1 C.2.1 dX2_advance_90 rfl (lv_at hl 0 rfl) ?_
    refine gf_X2_31 C hw (hX 3 2 rfl) dX2_advance_91 ?_
    refine lv_iload_n C.1 C.2.1 dX2_advance_94 rfl (lv_at hl 2 rfl) ?_
    refine lv_icmp_ge (tgt := 148) C.1 C.2.1 dX2_advance_95 (by decide) (fun hc1 => ?_) (fun hc1 => ?_)
    · replace hf := ea_if_t hc1 hf
      exact hk148 _ _ _ _ hf hw (lv_sub hl [0] rfl)
    · replace hf := ea_if_f hc1 hf
      refine lv_aload_n C.1 C.2.1 dX2_advance_98 rfl (lv_at hl 1 rfl) ?_
      refine lv_aload_n C.1 C.2.1 dX2_advance_99 rfl (lv_at hl 0 rfl) ?_
      refine gf_X2_31 C hw (hX 3 2 rfl) dX2_advance_100 ?_
      obtain ⟨hc2, hf⟩ := ea_ck_s hf
      refine ea_bald C hw (show ea_ok ids 2 22 from ok_7_0 (hX 1 7 rfl)) hc2 dX2_advance_103 ?_
      obtain ⟨r4, M5, he3, hf⟩ := ea_ci_s hf
      refine ea_runi2 hw (cl_X2_59 C hw (As := [.int (M.1 2 (M.1 3 4).toNatClampNeg)]) (rest := []) (mX2_isLetter (l := l) (E := E) (ids := ids) hX he3) (by decide) rfl hl.1 rfl (Nat.le_of_ble_eq_true rfl) dX2_advance_104 ⟨Nat.le_refl _, Nat.le_refl _⟩) (fun H locs hw => ?_)
      refine lv_if_eq (tgt := 148) C.1 C.2.1 dX2_advance_107 (by decide) (fun hc6 => ?_) (fun hc6 => ?_)
      · replace hf := ea_if_t hc6 hf
        exact hk148 _ _ _ _ hf hw (lv_sub hl [0] rfl)
      · replace hf := ea_if_f hc6 hf
        refine lv_aload_n C.1 C.2.1 dX2_advance_110 rfl (lv_at hl 0 rfl) ?_
        refine lv_aload_n C.1 C.2.1 dX2_advance_111 rfl (lv_at hl 0 rfl) ?_
        refine gf_X2_62 C hw (hX 3 2 rfl) dX2_advance_112 ?_
        refine lv_ldc2 (v := (27 : Int64)) C.1 C.2.1 C.2.2.2.1 (C.2.2.2.2.1 _ wk_RX2_66) dX2_advance_115 ?_
        refine lv_lmul C.1 C.2.1 dX2_advance_118 ?_
        refine lv_aload_n C.1 C.2.1 dX2_advance_119 rfl (lv_at hl 1 rfl) ?_
        refine lv_aload_n C.1 C.2.1 dX2_advance_120 rfl (lv_at hl 0 rfl) ?_
        refine gf_X2_31 C hw (hX 3 2 rfl) dX2_advance_121 ?_
        obtain ⟨hc7, hf⟩ := ea_ck_s hf
        refine ea_bald C hw (show ea_ok ids 2 22 from ok_7_0 (hX 1 7 rfl)) hc7 dX2_advance_124 ?_
        refine lv_bipush (v := 97) C.1 C.2.1 dX2_advance_125 (by decide) ?_
        refine lv_isub C.1 C.2.1 dX2_advance_127 ?_
        refine lv_iconst (v := 1) C.1 C.2.1 dX2_advance_128 (by decide) ?_
        refine lv_iadd C.1 C.2.1 dX2_advance_129 ?_
        refine lv_i2l C.1 C.2.1 dX2_advance_130 rfl ?_
        refine lv_ladd C.1 C.2.1 dX2_advance_131 ?_
        refine pu_X2_62 C hw (hX 3 2 rfl) dX2_advance_132 (fun H locs hw => ?_)
        refine lv_aload_n C.1 C.2.1 dX2_advance_135 rfl (lv_at hl 0 rfl) ?_
        refine lv_dup C.1 C.2.1 dX2_advance_136 rfl ?_
        refine gf_X2_31 C hw (hX 3 2 rfl) dX2_advance_137 ?_
        refine lv_iconst (v := 1) C.1 C.2.1 dX2_advance_140 (by decide) ?_
        refine lv_iadd C.1 C.2.1 dX2_advance_141 ?_
        refine pu_X2_31 C hw (hX 3 2 rfl) dX2_advance_142 (fun H locs hw => ?_)
        refine lv_goto (tgt := 90) C.1 C.2.1 dX2_advance_145 (by decide) ?_
        exact ih _ _ _ _ _ hf hw (lv_sub hl [0, 1, 2] rfl)
set_option maxHeartbeats 4000000 in
set_option maxRecDepth 20000 in
theorem wX2_advance_168 (C : ea_C p s m args meth cd cX2_advance 3 none RX2) (hX : ea_X ids) : ∀ (t0 : Int32) (M : eM) (H : Heap) (locs : List Loc) (ls : Array Slot), fX2_advance_168 t0 M = some res → ea_w E ids M s H locs → lv_has ls 3 [] → W p l e (ea_rm 1 20) s m args below meth cd H locs 0 0 (MQ below (ea_Qv E ids res) args s 0 0 (ea_Ad E ids)) (F0 m 168 ls [.int t0, .ref (E.1 3)]) := by
  intro t0 M H locs ls hf  hw hl
  replace hf := (fX2_advance_168.eq_1 ..).symm.trans hf
  refine pu_X2_40 C hw (hX 3 2 rfl) dX2_advance_168 (fun H locs hw => ?_)
  refine lv_goto (tgt := 300) C.1 C.2.1 dX2_advance_171 (by decide) ?_
  exact ea_vret C hw hf dX2_advance_300
set_option maxHeartbeats 4000000 in
set_option maxRecDepth 20000 in
theorem wX2_advance_148 (C : ea_C p s m args meth cd cX2_advance 3 none RX2) (hX : ea_X ids) : ∀  (M : eM) (H : Heap) (locs : List Loc) (ls : Array Slot), fX2_advance_148 M = some res → ea_w E ids M s H locs → lv_has ls 3 [(0, .ref (E.1 3))] → W p l e (ea_rm 1 20) s m args below meth cd H locs 0 0 (MQ below (ea_Qv E ids res) args s 0 0 (ea_Ad E ids)) (F0 m 148 ls []) := by
  intro M H locs ls hf  hw hl
  replace hf := (fX2_advance_148.eq_1 ..).symm.trans hf
  refine lv_aload_n C.1 C.2.1 dX2_advance_148 rfl (lv_at hl 0 rfl) ?_
  refine lv_aload_n C.1 C.2.1 dX2_advance_149 rfl (lv_at hl 0 rfl) ?_
  refine gf_X2_31 C hw (hX 3 2 rfl) dX2_advance_150 ?_
  refine lv_aload_n C.1 C.2.1 dX2_advance_153 rfl (lv_at hl 0 rfl) ?_
  refine gf_X2_43 C hw (hX 3 2 rfl) dX2_advance_154 ?_
  refine lv_isub C.1 C.2.1 dX2_advance_157 ?_
  refine lv_bipush (v := 8) C.1 C.2.1 dX2_advance_158 (by decide) ?_
  refine lv_icmp_gt (tgt := 167) C.1 C.2.1 dX2_advance_160 (by decide) (fun hc1 => ?_) (fun hc1 => ?_)
  · replace hf := ea_if_t hc1 hf
    refine lv_iconst (v := 4) C.1 C.2.1 dX2_advance_167 (by decide) ?_
    exact wX2_advance_168 C hX _ _ _ _ _ hf hw (lv_sub hl [] rfl)
  · replace hf := ea_if_f hc1 hf
    refine lv_iconst (v := 1) C.1 C.2.1 dX2_advance_163 (by decide) ?_
    refine lv_goto (tgt := 168) C.1 C.2.1 dX2_advance_164 (by decide) ?_
    exact wX2_advance_168 C hX _ _ _ _ _ hf hw (lv_sub hl [] rfl)
set_option maxHeartbeats 4000000 in
set_option maxRecDepth 20000 in
theorem wX2_advance_191 (C : ea_C p s m args meth cd cX2_advance 3 none RX2) (hX : ea_X ids) {k245 : eM → Option (eM)} (hk245 : ∀  (M : eM) (H : Heap) (locs : List Loc) (ls : Array Slot), k245 M = some res → ea_w E ids M s H locs → lv_has ls 3 [(0, .ref (E.1 3))] → W p l e (ea_rm 1 20) s m args below meth cd H locs 0 0 (MQ below (ea_Qv E ids res) args s 0 0 (ea_Ad E ids)) (F0 m 245 ls [])) : ∀ (n : Nat) (x2 : Int32) (M : eM) (H : Heap) (locs : List Loc) (ls : Array Slot), fX2_advance_191 k245 n x2 M = some res → ea_w E ids M s H locs → lv_has ls 3 [(0, .ref (E.1 3)), (1, .ref (E.1 2)), (2, .int x2)] → W p l e (ea_rm 1 20) s m args below meth cd H locs 0 0 (MQ below (ea_Qv E ids res) args s 0 0 (ea_Ad E ids)) (F0 m 191 ls []) := by
  intro n
  induction n with
  | zero => intro x2 M H locs ls hf; cases hf
  | succ n ih =>
    intro x2 M H locs ls hf  hw hl
    replace hf := (fX2_advance_191.eq_2 ..).symm.trans hf
    refine lv_aload_n C.1 C.2.1 dX2_advance_191 rfl (lv_at hl 0 rfl) ?_
    refine gf_X2_31 C hw (hX 3 2 rfl) dX2_advance_192 ?_
    refine lv_iload_n C.1 C.2.1 dX2_advance_195 rfl (lv_at hl 2 rfl) ?_
    refine lv_icmp_ge (tgt := 245) C.1 C.2.1 dX2_advance_196 (by decide) (fun hc1 => ?_) (fun hc1 => ?_)
    · replace hf := ea_if_t hc1 hf
      exact hk245 _ _ _ _ hf hw (lv_sub hl [0] rfl)
    · replace hf := ea_if_f hc1 hf
      refine lv_aload_n C.1 C.2.1 dX2_advance_199 rfl (lv_at hl 1 rfl) ?_
      refine lv_aload_n C.1 C.2.1 dX2_advance_200 rfl (lv_at hl 0 rfl) ?_
      refine gf_X2_31 C hw (hX 3 2 rfl) dX2_advance_201 ?_
      obtain ⟨hc2, hf⟩ := ea_ck_s hf
      refine ea_bald C hw (show ea_ok ids 2 22 from ok_7_0 (hX 1 7 rfl)) hc2 dX2_advance_204 ?_
      obtain ⟨r4, M5, he3, hf⟩ := ea_ci_s hf
      refine ea_runi2 hw (cl_X2_68 C hw (As := [.int (M.1 2 (M.1 3 4).toNatClampNeg)]) (rest := []) (mX2_isDigit (l := l) (E := E) (ids := ids) hX he3) (by decide) rfl hl.1 rfl (Nat.le_of_ble_eq_true rfl) dX2_advance_205 ⟨Nat.le_refl _, Nat.le_refl _⟩) (fun H locs hw => ?_)
      refine lv_if_eq (tgt := 245) C.1 C.2.1 dX2_advance_208 (by decide) (fun hc6 => ?_) (fun hc6 => ?_)
      · replace hf := ea_if_t hc6 hf
        exact hk245 _ _ _ _ hf hw (lv_sub hl [0] rfl)
      · replace hf := ea_if_f hc6 hf
        refine lv_aload_n C.1 C.2.1 dX2_advance_211 rfl (lv_at hl 0 rfl) ?_
        refine lv_aload_n C.1 C.2.1 dX2_advance_212 rfl (lv_at hl 0 rfl) ?_
        refine gf_X2_71 C hw (hX 3 2 rfl) dX2_advance_213 ?_
        refine lv_bipush (v := 10) C.1 C.2.1 dX2_advance_216 (by decide) ?_
        refine lv_imul C.1 C.2.1 dX2_advance_218 ?_
        refine lv_aload_n C.1 C.2.1 dX2_advance_219 rfl (lv_at hl 1 rfl) ?_
        refine lv_aload_n C.1 C.2.1 dX2_advance_220 rfl (lv_at hl 0 rfl) ?_
        refine gf_X2_31 C hw (hX 3 2 rfl) dX2_advance_221 ?_
        obtain ⟨hc7, hf⟩ := ea_ck_s hf
        refine ea_bald C hw (show ea_ok ids 2 22 from ok_7_0 (hX 1 7 rfl)) hc7 dX2_advance_224 ?_
        refine lv_bipush (v := 48) C.1 C.2.1 dX2_advance_225 (by decide) ?_
        refine lv_isub C.1 C.2.1 dX2_advance_227 ?_
        refine lv_iadd C.1 C.2.1 dX2_advance_228 ?_
        refine pu_X2_71 C hw (hX 3 2 rfl) dX2_advance_229 (fun H locs hw => ?_)
        refine lv_aload_n C.1 C.2.1 dX2_advance_232 rfl (lv_at hl 0 rfl) ?_
        refine lv_dup C.1 C.2.1 dX2_advance_233 rfl ?_
        refine gf_X2_31 C hw (hX 3 2 rfl) dX2_advance_234 ?_
        refine lv_iconst (v := 1) C.1 C.2.1 dX2_advance_237 (by decide) ?_
        refine lv_iadd C.1 C.2.1 dX2_advance_238 ?_
        refine pu_X2_31 C hw (hX 3 2 rfl) dX2_advance_239 (fun H locs hw => ?_)
        refine lv_goto (tgt := 191) C.1 C.2.1 dX2_advance_242 (by decide) ?_
        exact ih _ _ _ _ _ hf hw (lv_sub hl [0, 1, 2] rfl)
set_option maxHeartbeats 4000000 in
set_option maxRecDepth 20000 in
theorem wX2_advance_264 (C : ea_C p s m args meth cd cX2_advance 3 none RX2) (hX : ea_X ids) : ∀ (t0 : Int32) (M : eM) (H : Heap) (locs : List Loc) (ls : Array Slot), fX2_advance_264 t0 M = some res → ea_w E ids M s H locs → lv_has ls 3 [] → W p l e (ea_rm 1 20) s m args below meth cd H locs 0 0 (MQ below (ea_Qv E ids res) args s 0 0 (ea_Ad E ids)) (F0 m 264 ls [.int t0, .ref (E.1 3)]) := by
  intro t0 M H locs ls hf  hw hl
  replace hf := (fX2_advance_264.eq_1 ..).symm.trans hf
  refine pu_X2_40 C hw (hX 3 2 rfl) dX2_advance_264 (fun H locs hw => ?_)
  refine lv_goto (tgt := 300) C.1 C.2.1 dX2_advance_267 (by decide) ?_
  exact ea_vret C hw hf dX2_advance_300
set_option maxHeartbeats 4000000 in
set_option maxRecDepth 20000 in
theorem wX2_advance_245 (C : ea_C p s m args meth cd cX2_advance 3 none RX2) (hX : ea_X ids) : ∀  (M : eM) (H : Heap) (locs : List Loc) (ls : Array Slot), fX2_advance_245 M = some res → ea_w E ids M s H locs → lv_has ls 3 [(0, .ref (E.1 3))] → W p l e (ea_rm 1 20) s m args below meth cd H locs 0 0 (MQ below (ea_Qv E ids res) args s 0 0 (ea_Ad E ids)) (F0 m 245 ls []) := by
  intro M H locs ls hf  hw hl
  replace hf := (fX2_advance_245.eq_1 ..).symm.trans hf
  refine lv_aload_n C.1 C.2.1 dX2_advance_245 rfl (lv_at hl 0 rfl) ?_
  refine lv_aload_n C.1 C.2.1 dX2_advance_246 rfl (lv_at hl 0 rfl) ?_
  refine gf_X2_31 C hw (hX 3 2 rfl) dX2_advance_247 ?_
  refine lv_aload_n C.1 C.2.1 dX2_advance_250 rfl (lv_at hl 0 rfl) ?_
  refine gf_X2_43 C hw (hX 3 2 rfl) dX2_advance_251 ?_
  refine lv_isub C.1 C.2.1 dX2_advance_254 ?_
  refine lv_iconst (v := 4) C.1 C.2.1 dX2_advance_255 (by decide) ?_
  refine lv_icmp_gt (tgt := 263) C.1 C.2.1 dX2_advance_256 (by decide) (fun hc1 => ?_) (fun hc1 => ?_)
  · replace hf := ea_if_t hc1 hf
    refine lv_iconst (v := 4) C.1 C.2.1 dX2_advance_263 (by decide) ?_
    exact wX2_advance_264 C hX _ _ _ _ _ hf hw (lv_sub hl [] rfl)
  · replace hf := ea_if_f hc1 hf
    refine lv_iconst (v := 2) C.1 C.2.1 dX2_advance_259 (by decide) ?_
    refine lv_goto (tgt := 264) C.1 C.2.1 dX2_advance_260 (by decide) ?_
    exact wX2_advance_264 C hX _ _ _ _ _ hf hw (lv_sub hl [] rfl)
set_option maxHeartbeats 4000000 in
set_option maxRecDepth 20000 in
theorem wX2_advance_287 (C : ea_C p s m args meth cd cX2_advance 3 none RX2) (hX : ea_X ids) : ∀ (t0 : Int32) (M : eM) (H : Heap) (locs : List Loc) (ls : Array Slot), fX2_advance_287 t0 M = some res → ea_w E ids M s H locs → lv_has ls 3 [(0, .ref (E.1 3))] → W p l e (ea_rm 1 20) s m args below meth cd H locs 0 0 (MQ below (ea_Qv E ids res) args s 0 0 (ea_Ad E ids)) (F0 m 287 ls [.int t0, .ref (E.1 3)]) := by
  intro t0 M H locs ls hf  hw hl
  replace hf := (fX2_advance_287.eq_1 ..).symm.trans hf
  refine pu_X2_40 C hw (hX 3 2 rfl) dX2_advance_287 (fun H locs hw => ?_)
  refine lv_aload_n C.1 C.2.1 dX2_advance_290 rfl (lv_at hl 0 rfl) ?_
  refine lv_dup C.1 C.2.1 dX2_advance_291 rfl ?_
  refine gf_X2_31 C hw (hX 3 2 rfl) dX2_advance_292 ?_
  refine lv_iconst (v := 1) C.1 C.2.1 dX2_advance_295 (by decide) ?_
  refine lv_iadd C.1 C.2.1 dX2_advance_296 ?_
  refine pu_X2_31 C hw (hX 3 2 rfl) dX2_advance_297 (fun H locs hw => ?_)
  exact ea_vret C hw hf dX2_advance_300
set_option maxHeartbeats 4000000 in
set_option maxRecDepth 20000 in
theorem wX2_advance_49 (C : ea_C p s m args meth cd cX2_advance 3 none RX2) (hX : ea_X ids) : ∀ (x2 : Int32) (M : eM) (H : Heap) (locs : List Loc) (ls : Array Slot), fX2_advance_49 x2 M = some res → ea_w E ids M s H locs → lv_has ls 3 [(0, .ref (E.1 3)), (1, .ref (E.1 2)), (2, .int x2)] → W p l e (ea_rm 1 20) s m args below meth cd H locs 0 0 (MQ below (ea_Qv E ids res) args s 0 0 (ea_Ad E ids)) (F0 m 49 ls []) := by
  intro x2 M H locs ls hf  hw hl
  replace hf := (fX2_advance_49.eq_1 ..).symm.trans hf
  refine lv_aload_n C.1 C.2.1 dX2_advance_49 rfl (lv_at hl 0 rfl) ?_
  refine lv_aload_n C.1 C.2.1 dX2_advance_50 rfl (lv_at hl 0 rfl) ?_
  refine gf_X2_31 C hw (hX 3 2 rfl) dX2_advance_51 ?_
  refine pu_X2_43 C hw (hX 3 2 rfl) dX2_advance_54 (fun H locs hw => ?_)
  refine lv_aload_n C.1 C.2.1 dX2_advance_57 rfl (lv_at hl 0 rfl) ?_
  refine gf_X2_31 C hw (hX 3 2 rfl) dX2_advance_58 ?_
  refine lv_iload_n C.1 C.2.1 dX2_advance_61 rfl (lv_at hl 2 rfl) ?_
  refine lv_icmp_lt (tgt := 73) C.1 C.2.1 dX2_advance_62 (by decide) (fun hc1 => ?_) (fun hc1 => ?_)
  · replace hf := ea_if_t hc1 hf
    refine lv_aload_n C.1 C.2.1 dX2_advance_73 rfl (lv_at hl 1 rfl) ?_
    refine lv_aload_n C.1 C.2.1 dX2_advance_74 rfl (lv_at hl 0 rfl) ?_
    refine gf_X2_31 C hw (hX 3 2 rfl) dX2_advance_75 ?_
    obtain ⟨hc2, hf⟩ := ea_ck_s hf
    refine ea_bald C hw (show ea_ok ids 2 22 from ok_7_0 (hX 1 7 rfl)) hc2 dX2_advance_78 ?_
    obtain ⟨r4, M5, he3, hf⟩ := ea_ci_s hf
    refine ea_runi2 hw (cl_X2_59 C hw (As := [.int ((ea_pI M 3 7 (M.1 3 4)).1 2 ((ea_pI M 3 7 (M.1 3 4)).1 3 4).toNatClampNeg)]) (rest := []) (mX2_isLetter (l := l) (E := E) (ids := ids) hX he3) (by decide) rfl hl.1 rfl (Nat.le_of_ble_eq_true rfl) dX2_advance_79 ⟨Nat.le_refl _, Nat.le_refl _⟩) (fun H locs hw => ?_)
    refine lv_if_eq (tgt := 174) C.1 C.2.1 dX2_advance_82 (by decide) (fun hc6 => ?_) (fun hc6 => ?_)
    · replace hf := ea_if_t hc6 hf
      refine lv_aload_n C.1 C.2.1 dX2_advance_174 rfl (lv_at hl 1 rfl) ?_
      refine lv_aload_n C.1 C.2.1 dX2_advance_175 rfl (lv_at hl 0 rfl) ?_
      refine gf_X2_31 C hw (hX 3 2 rfl) dX2_advance_176 ?_
      obtain ⟨hc7, hf⟩ := ea_ck_s hf
      refine ea_bald C hw (show ea_ok ids 2 22 from ok_7_0 (hX 1 7 rfl)) hc7 dX2_advance_179 ?_
      obtain ⟨r9, M10, he8, hf⟩ := ea_ci_s hf
      refine ea_runi2 hw (cl_X2_68 C hw (As := [.int (M5.1 2 (M5.1 3 4).toNatClampNeg)]) (rest := []) (mX2_isDigit (l := l) (E := E) (ids := ids) hX he8) (by decide) rfl hl.1 rfl (Nat.le_of_ble_eq_true rfl) dX2_advance_180 ⟨Nat.le_refl _, Nat.le_refl _⟩) (fun H locs hw => ?_)
      refine lv_if_eq (tgt := 270) C.1 C.2.1 dX2_advance_183 (by decide) (fun hc11 => ?_) (fun hc11 => ?_)
      · replace hf := ea_if_t hc11 hf
        refine lv_aload_n C.1 C.2.1 dX2_advance_270 rfl (lv_at hl 0 rfl) ?_
        refine lv_aload_n C.1 C.2.1 dX2_advance_271 rfl (lv_at hl 1 rfl) ?_
        refine lv_aload_n C.1 C.2.1 dX2_advance_272 rfl (lv_at hl 0 rfl) ?_
        refine gf_X2_31 C hw (hX 3 2 rfl) dX2_advance_273 ?_
        obtain ⟨hc12, hf⟩ := ea_ck_s hf
        refine ea_bald C hw (show ea_ok ids 2 22 from ok_7_0 (hX 1 7 rfl)) hc12 dX2_advance_276 ?_
        refine lv_bipush (v := 59) C.1 C.2.1 dX2_advance_277 (by decide) ?_
        refine lv_icmp_ne (tgt := 286) C.1 C.2.1 dX2_advance_279 (by decide) (fun hc13 => ?_) (fun hc13 => ?_)
        · replace hf := ea_if_f hc13 hf
          refine lv_iconst (v := 4) C.1 C.2.1 dX2_advance_286 (by decide) ?_
          exact wX2_advance_287 C hX _ _ _ _ _ hf hw (lv_sub hl [0] rfl)
        · replace hf := ea_if_t hc13 hf
          refine lv_iconst (v := 3) C.1 C.2.1 dX2_advance_282 (by decide) ?_
          refine lv_goto (tgt := 287) C.1 C.2.1 dX2_advance_283 (by decide) ?_
          exact wX2_advance_287 C hX _ _ _ _ _ hf hw (lv_sub hl [0] rfl)
      · replace hf := ea_if_f hc11 hf
        refine lv_aload_n C.1 C.2.1 dX2_advance_186 rfl (lv_at hl 0 rfl) ?_
        refine lv_iconst (v := 0) C.1 C.2.1 dX2_advance_187 (by decide) ?_
        refine pu_X2_71 C hw (hX 3 2 rfl) dX2_advance_188 (fun H locs hw => ?_)
        exact wX2_advance_191 C hX (wX2_advance_245 C hX) ea_N _ _ _ _ _ hf hw (lv_sub hl [0, 1, 2] rfl)
    · replace hf := ea_if_f hc6 hf
      refine lv_aload_n C.1 C.2.1 dX2_advance_85 rfl (lv_at hl 0 rfl) ?_
      refine lv_lconst (v := (0 : Int64)) C.1 C.2.1 dX2_advance_86 (by decide) ?_
      refine pu_X2_62 C hw (hX 3 2 rfl) dX2_advance_87 (fun H locs hw => ?_)
      exact wX2_advance_90 C hX (wX2_advance_148 C hX) ea_N _ _ _ _ _ hf hw (lv_sub hl [0, 1, 2] rfl)
  · replace hf := ea_if_f hc1 hf
    refine lv_aload_n C.1 C.2.1 dX2_advance_65 rfl (lv_at hl 0 rfl) ?_
    refine lv_iconst (v := 0) C.1 C.2.1 dX2_advance_66 (by decide) ?_
    refine pu_X2_40 C hw (hX 3 2 rfl) dX2_advance_67 (fun H locs hw => ?_)
    refine lv_goto (tgt := 300) C.1 C.2.1 dX2_advance_70 (by decide) ?_
    exact ea_vret C hw hf dX2_advance_300
set_option maxHeartbeats 4000000 in
set_option maxRecDepth 20000 in
theorem wX2_advance_0 (C : ea_C p s m args meth cd cX2_advance 3 none RX2) (hX : ea_X ids) : ∀  (M : eM) (H : Heap) (locs : List Loc) (ls : Array Slot), fX2_advance_0 M = some res → ea_w E ids M s H locs → lv_has ls 3 [(0, .ref (E.1 3))] → W p l e (ea_rm 1 20) s m args below meth cd H locs 0 0 (MQ below (ea_Qv E ids res) args s 0 0 (ea_Ad E ids)) (F0 m 0 ls []) := by
  intro M H locs ls hf  hw hl
  replace hf := (fX2_advance_0.eq_1 ..).symm.trans hf
  refine lv_aload_n C.1 C.2.1 dX2_advance_0 rfl (lv_at hl 0 rfl) ?_
  refine gf_X2_18 C hw (hX 3 2 rfl) dX2_advance_1 ?_
  refine gf_X2_46 C hw (hX 1 7 rfl) dX2_advance_4 ?_
  refine W.eq (g2 := F0 m 7 ls [.ref (E.1 2)]) rfl ?_
  refine lv_astore_n (lv' := [(1, .ref (E.1 2)), (0, .ref (E.1 3))]) C.1 C.2.1 dX2_advance_7 rfl hl (by decide) rfl (fun ls hl => ?_)
  refine lv_aload_n C.1 C.2.1 dX2_advance_8 rfl (lv_at hl 1 rfl) ?_
  refine gf_X2_18 C hw (hX 3 2 rfl) dX2_advance_9 ?_
  refine gf_X2_52 C hw (hX 1 7 rfl) dX2_advance_12 ?_
  refine lv_istore_n (lv' := [(2, .int (M.1 1 1)), (1, .ref (E.1 2)), (0, .ref (E.1 3))]) C.1 C.2.1 dX2_advance_15 rfl hl (by decide) rfl (fun ls hl => ?_)
  exact wX2_advance_16 C hX (wX2_advance_49 C hX) ea_N _ _ _ _ _ hf hw (lv_sub hl [2, 1, 0] rfl)
set_option maxHeartbeats 4000000 in
set_option maxRecDepth 20000 in
theorem mX2_advance {l : Launch} {E : eE} {ids : List Nat} (hX : ea_X ids) {M : eM} {res : eM} (hf : fX2_advance M = some res) : ea_Mv l yX2_advance cX2_advance 3 1 20 E ids [.ref (E.1 3)] M res := by
  refine ea_gov (by decide) (Nat.le_of_ble_eq_true rfl) wc_X2_advance ?_
  intro p e s m below meth cd ls C hw hl
  exact wX2_advance_0 C hX  _ _ _ _ hf hw hl
end SX2_advance

def fX2_hasMore_0 (M : eM) : Option (Int32 × eM) := ea_cv (fX2_advance M) (fun M2 => if (M2.1 3 6) = 0 then (some ((0 : Int32), M2)) else (some ((1 : Int32), M2)))
def fX2_hasMore (M : eM) : Option (Int32 × eM) := fX2_hasMore_0 M
section SX2_hasMore
variable {p : Program} {l : Launch} {e : Env} {s : State} {m : MethodId} {args : Array Value} {below : List Frame} {meth : Method} {cd : Code} {E : eE} {ids : List Nat} {res : Int32 × eM}
set_option maxHeartbeats 4000000 in
set_option maxRecDepth 20000 in
theorem wX2_hasMore_0 (C : ea_C p s m args meth cd cX2_hasMore 1 (some .boolean) RX2) (hX : ea_X ids) : ∀  (M : eM) (H : Heap) (locs : List Loc) (ls : Array Slot), fX2_hasMore_0 M = some res → ea_w E ids M s H locs → lv_has ls 1 [(0, .ref (E.1 3))] → W p l e (ea_rm 2 42) s m args below meth cd H locs 0 0 (MQ below (ea_Qi E ids res) args s 0 0 (ea_Ad E ids)) (F0 m 0 ls []) := by
  intro M H locs ls hf  hw hl
  replace hf := (fX2_hasMore_0.eq_1 ..).symm.trans hf
  refine lv_aload_n C.1 C.2.1 dX2_hasMore_0 rfl (lv_at hl 0 rfl) ?_
  obtain ⟨M2, he1, hf⟩ := ea_cv_s hf
  refine ea_runv hw (cl_X2_37 C hw (hX 3 2 rfl) (As := []) (rest := []) (mX2_advance (l := l) (E := E) (ids := ids) hX he1) (by decide) rfl hl.1 rfl (Nat.le_of_ble_eq_true rfl) dX2_hasMore_1 ⟨Nat.le_refl _, Nat.le_refl _⟩) (fun H locs hw => ?_)
  refine lv_aload_n C.1 C.2.1 dX2_hasMore_4 rfl (lv_at hl 0 rfl) ?_
  refine gf_X2_40 C hw (hX 3 2 rfl) dX2_hasMore_5 ?_
  refine lv_if_eq (tgt := 15) C.1 C.2.1 dX2_hasMore_8 (by decide) (fun hc3 => ?_) (fun hc3 => ?_)
  · replace hf := ea_if_t hc3 hf
    refine lv_iconst (v := 0) C.1 C.2.1 dX2_hasMore_15 (by decide) ?_
    exact ea_zret C hw (by decide) hf dX2_hasMore_16
  · replace hf := ea_if_f hc3 hf
    refine lv_iconst (v := 1) C.1 C.2.1 dX2_hasMore_11 (by decide) ?_
    refine lv_goto (tgt := 16) C.1 C.2.1 dX2_hasMore_12 (by decide) ?_
    exact ea_zret C hw (by decide) hf dX2_hasMore_16
set_option maxHeartbeats 4000000 in
set_option maxRecDepth 20000 in
theorem mX2_hasMore {l : Launch} {E : eE} {ids : List Nat} (hX : ea_X ids) {M : eM} {res : Int32 × eM} (hf : fX2_hasMore M = some res) : ea_Mi l yX2_hasMore cX2_hasMore 1 (some .boolean) 2 42 E ids [.ref (E.1 3)] M res := by
  refine ea_goi (by decide) (Nat.le_of_ble_eq_true rfl) wc_X2_hasMore ?_
  intro p e s m below meth cd ls C hw hl
  exact wX2_hasMore_0 C hX  _ _ _ _ hf hw hl
end SX2_hasMore

def fX2_refuse_0 (x1 : Int32) (M : eM) : Option (Int32 × eM) := some ((0 : Int32), ea_pI (ea_pI M 3 0 x1) 3 1 ((ea_pI M 3 0 x1).1 3 7))
def fX2_refuse (x1 : Int32) (M : eM) : Option (Int32 × eM) := fX2_refuse_0 x1 M
section SX2_refuse
variable {p : Program} {l : Launch} {e : Env} {s : State} {m : MethodId} {args : Array Value} {below : List Frame} {meth : Method} {cd : Code} {E : eE} {ids : List Nat} {res : Int32 × eM}
set_option maxHeartbeats 4000000 in
set_option maxRecDepth 20000 in
theorem wX2_refuse_0 (C : ea_C p s m args meth cd cX2_refuse 2 (some .boolean) RX2) (hX : ea_X ids) : ∀ (x1 : Int32) (M : eM) (H : Heap) (locs : List Loc) (ls : Array Slot), fX2_refuse_0 x1 M = some res → ea_w E ids M s H locs → lv_has ls 2 [(0, .ref (E.1 3)), (1, .int x1)] → W p l e (ea_rm 0 0) s m args below meth cd H locs 0 0 (MQ below (ea_Qi E ids res) args s 0 0 (ea_Ad E ids)) (F0 m 0 ls []) := by
  intro x1 M H locs ls hf  hw hl
  replace hf := (fX2_refuse_0.eq_1 ..).symm.trans hf
  refine lv_aload_n C.1 C.2.1 dX2_refuse_0 rfl (lv_at hl 0 rfl) ?_
  refine lv_iload_n C.1 C.2.1 dX2_refuse_1 rfl (lv_at hl 1 rfl) ?_
  refine pu_X2_9 C hw (hX 3 2 rfl) dX2_refuse_2 (fun H locs hw => ?_)
  refine lv_aload_n C.1 C.2.1 dX2_refuse_5 rfl (lv_at hl 0 rfl) ?_
  refine lv_aload_n C.1 C.2.1 dX2_refuse_6 rfl (lv_at hl 0 rfl) ?_
  refine gf_X2_43 C hw (hX 3 2 rfl) dX2_refuse_7 ?_
  refine pu_X2_15 C hw (hX 3 2 rfl) dX2_refuse_10 (fun H locs hw => ?_)
  refine lv_iconst (v := 0) C.1 C.2.1 dX2_refuse_13 (by decide) ?_
  exact ea_zret C hw (by decide) hf dX2_refuse_14
set_option maxHeartbeats 4000000 in
set_option maxRecDepth 20000 in
theorem mX2_refuse {l : Launch} {E : eE} {ids : List Nat} (hX : ea_X ids) {x1 : Int32} {M : eM} {res : Int32 × eM} (hf : fX2_refuse x1 M = some res) : ea_Mi l yX2_refuse cX2_refuse 2 (some .boolean) 0 0 E ids [.ref (E.1 3), .int x1] M res := by
  refine ea_goi (by decide) (Nat.le_of_ble_eq_true rfl) wc_X2_refuse ?_
  intro p e s m below meth cd ls C hw hl
  exact wX2_refuse_0 C hX _ _ _ _ _ hf hw hl
end SX2_refuse

def fX2_closes_20 (M : eM) : Option (Int32 × eM) := some ((1 : Int32), M)
def fX2_closes_0 (M : eM) : Option (Int32 × eM) := ea_cv (fX2_advance M) (fun M2 => if (M2.1 3 6) = (3 : Int32) then (fX2_closes_20 M2) else (ea_ci (fX2_refuse (1 : Int32) M2) (fun r5 M6 => if r5 = 0 then (some ((0 : Int32), M6)) else (fX2_closes_20 M6))))
def fX2_closes (M : eM) : Option (Int32 × eM) := fX2_closes_0 M
section SX2_closes
variable {p : Program} {l : Launch} {e : Env} {s : State} {m : MethodId} {args : Array Value} {below : List Frame} {meth : Method} {cd : Code} {E : eE} {ids : List Nat} {res : Int32 × eM}
set_option maxHeartbeats 4000000 in
set_option maxRecDepth 20000 in
theorem wX2_closes_20 (C : ea_C p s m args meth cd cX2_closes 1 (some .boolean) RX2) (hX : ea_X ids) : ∀  (M : eM) (H : Heap) (locs : List Loc) (ls : Array Slot), fX2_closes_20 M = some res → ea_w E ids M s H locs → lv_has ls 1 [] → W p l e (ea_rm 2 42) s m args below meth cd H locs 0 0 (MQ below (ea_Qi E ids res) args s 0 0 (ea_Ad E ids)) (F0 m 20 ls []) := by
  intro M H locs ls hf  hw hl
  replace hf := (fX2_closes_20.eq_1 ..).symm.trans hf
  refine lv_iconst (v := 1) C.1 C.2.1 dX2_closes_20 (by decide) ?_
  refine lv_goto (tgt := 25) C.1 C.2.1 dX2_closes_21 (by decide) ?_
  exact ea_zret C hw (by decide) hf dX2_closes_25
set_option maxHeartbeats 4000000 in
set_option maxRecDepth 20000 in
theorem wX2_closes_0 (C : ea_C p s m args meth cd cX2_closes 1 (some .boolean) RX2) (hX : ea_X ids) : ∀  (M : eM) (H : Heap) (locs : List Loc) (ls : Array Slot), fX2_closes_0 M = some res → ea_w E ids M s H locs → lv_has ls 1 [(0, .ref (E.1 3))] → W p l e (ea_rm 2 42) s m args below meth cd H locs 0 0 (MQ below (ea_Qi E ids res) args s 0 0 (ea_Ad E ids)) (F0 m 0 ls []) := by
  intro M H locs ls hf  hw hl
  replace hf := (fX2_closes_0.eq_1 ..).symm.trans hf
  refine lv_aload_n C.1 C.2.1 dX2_closes_0 rfl (lv_at hl 0 rfl) ?_
  obtain ⟨M2, he1, hf⟩ := ea_cv_s hf
  refine ea_runv hw (cl_X2_37 C hw (hX 3 2 rfl) (As := []) (rest := []) (mX2_advance (l := l) (E := E) (ids := ids) hX he1) (by decide) rfl hl.1 rfl (Nat.le_of_ble_eq_true rfl) dX2_closes_1 ⟨Nat.le_refl _, Nat.le_refl _⟩) (fun H locs hw => ?_)
  refine lv_aload_n C.1 C.2.1 dX2_closes_4 rfl (lv_at hl 0 rfl) ?_
  refine gf_X2_40 C hw (hX 3 2 rfl) dX2_closes_5 ?_
  refine lv_iconst (v := 3) C.1 C.2.1 dX2_closes_8 (by decide) ?_
  refine lv_icmp_eq (tgt := 20) C.1 C.2.1 dX2_closes_9 (by decide) (fun hc3 => ?_) (fun hc3 => ?_)
  · replace hf := ea_if_t hc3 hf
    exact wX2_closes_20 C hX _ _ _ _ hf hw (lv_sub hl [] rfl)
  · replace hf := ea_if_f hc3 hf
    refine lv_aload_n C.1 C.2.1 dX2_closes_12 rfl (lv_at hl 0 rfl) ?_
    refine lv_iconst (v := 1) C.1 C.2.1 dX2_closes_13 (by decide) ?_
    obtain ⟨r5, M6, he4, hf⟩ := ea_ci_s hf
    refine ea_runi2 hw (cl_X2_138 C hw (hX 3 2 rfl) (As := [.int (1 : Int32)]) (rest := []) (mX2_refuse (l := l) (E := E) (ids := ids) hX he4) (by decide) rfl hl.1 rfl (Nat.le_of_ble_eq_true rfl) dX2_closes_14 ⟨Nat.le_refl _, Nat.le_refl _⟩) (fun H locs hw => ?_)
    refine lv_if_eq (tgt := 24) C.1 C.2.1 dX2_closes_17 (by decide) (fun hc7 => ?_) (fun hc7 => ?_)
    · replace hf := ea_if_t hc7 hf
      refine lv_iconst (v := 0) C.1 C.2.1 dX2_closes_24 (by decide) ?_
      exact ea_zret C hw (by decide) hf dX2_closes_25
    · replace hf := ea_if_f hc7 hf
      exact wX2_closes_20 C hX _ _ _ _ hf hw (lv_sub hl [] rfl)
set_option maxHeartbeats 4000000 in
set_option maxRecDepth 20000 in
theorem mX2_closes {l : Launch} {E : eE} {ids : List Nat} (hX : ea_X ids) {M : eM} {res : Int32 × eM} (hf : fX2_closes M = some res) : ea_Mi l yX2_closes cX2_closes 1 (some .boolean) 2 42 E ids [.ref (E.1 3)] M res := by
  refine ea_goi (by decide) (Nat.le_of_ble_eq_true rfl) wc_X2_closes ?_
  intro p e s m below meth cd ls C hw hl
  exact wX2_closes_0 C hX  _ _ _ _ hf hw hl
end SX2_closes

def fX2_isFirst_0 (x1 : Int32) (M : eM) : Option (Int32 × eM) := if ((M.1 3 5) &&& x1) = 0 then (some ((1 : Int32), ea_pI M 3 5 ((M.1 3 5) ||| x1))) else (ea_ci (fX2_refuse (3 : Int32) M) (fun r3 M4 => ea_ck (ea_01 r3) (some (r3, M4))))
def fX2_isFirst (x1 : Int32) (M : eM) : Option (Int32 × eM) := fX2_isFirst_0 x1 M
section SX2_isFirst
variable {p : Program} {l : Launch} {e : Env} {s : State} {m : MethodId} {args : Array Value} {below : List Frame} {meth : Method} {cd : Code} {E : eE} {ids : List Nat} {res : Int32 × eM}
set_option maxHeartbeats 4000000 in
set_option maxRecDepth 20000 in
theorem wX2_isFirst_0 (C : ea_C p s m args meth cd cX2_isFirst 2 (some .boolean) RX2) (hX : ea_X ids) : ∀ (x1 : Int32) (M : eM) (H : Heap) (locs : List Loc) (ls : Array Slot), fX2_isFirst_0 x1 M = some res → ea_w E ids M s H locs → lv_has ls 2 [(0, .ref (E.1 3)), (1, .int x1)] → W p l e (ea_rm 1 21) s m args below meth cd H locs 0 0 (MQ below (ea_Qi E ids res) args s 0 0 (ea_Ad E ids)) (F0 m 0 ls []) := by
  intro x1 M H locs ls hf  hw hl
  replace hf := (fX2_isFirst_0.eq_1 ..).symm.trans hf
  refine lv_aload_n C.1 C.2.1 dX2_isFirst_0 rfl (lv_at hl 0 rfl) ?_
  refine gf_X2_34 C hw (hX 3 2 rfl) dX2_isFirst_1 ?_
  refine lv_iload_n C.1 C.2.1 dX2_isFirst_4 rfl (lv_at hl 1 rfl) ?_
  refine lv_iand C.1 C.2.1 dX2_isFirst_5 ?_
  refine lv_if_eq (tgt := 15) C.1 C.2.1 dX2_isFirst_6 (by decide) (fun hc1 => ?_) (fun hc1 => ?_)
  · replace hf := ea_if_t hc1 hf
    refine lv_aload_n C.1 C.2.1 dX2_isFirst_15 rfl (lv_at hl 0 rfl) ?_
    refine lv_dup C.1 C.2.1 dX2_isFirst_16 rfl ?_
    refine gf_X2_34 C hw (hX 3 2 rfl) dX2_isFirst_17 ?_
    refine lv_iload_n C.1 C.2.1 dX2_isFirst_20 rfl (lv_at hl 1 rfl) ?_
    refine lv_ior C.1 C.2.1 dX2_isFirst_21 ?_
    refine pu_X2_34 C hw (hX 3 2 rfl) dX2_isFirst_22 (fun H locs hw => ?_)
    refine lv_iconst (v := 1) C.1 C.2.1 dX2_isFirst_25 (by decide) ?_
    exact ea_zret C hw (by decide) hf dX2_isFirst_26
  · replace hf := ea_if_f hc1 hf
    refine lv_aload_n C.1 C.2.1 dX2_isFirst_9 rfl (lv_at hl 0 rfl) ?_
    refine lv_iconst (v := 3) C.1 C.2.1 dX2_isFirst_10 (by decide) ?_
    obtain ⟨r3, M4, he2, hf⟩ := ea_ci_s hf
    refine ea_runi2 hw (cl_X2_138 C hw (hX 3 2 rfl) (As := [.int (3 : Int32)]) (rest := []) (mX2_refuse (l := l) (E := E) (ids := ids) hX he2) (by decide) rfl hl.1 rfl (Nat.le_of_ble_eq_true rfl) dX2_isFirst_11 ⟨Nat.le_refl _, Nat.le_refl _⟩) (fun H locs hw => ?_)
    obtain ⟨hc5, hf⟩ := ea_ck_s hf
    exact ea_zret C hw (ea_01_s hc5) hf dX2_isFirst_14
set_option maxHeartbeats 4000000 in
set_option maxRecDepth 20000 in
theorem mX2_isFirst {l : Launch} {E : eE} {ids : List Nat} (hX : ea_X ids) {x1 : Int32} {M : eM} {res : Int32 × eM} (hf : fX2_isFirst x1 M = some res) : ea_Mi l yX2_isFirst cX2_isFirst 2 (some .boolean) 1 21 E ids [.ref (E.1 3), .int x1] M res := by
  refine ea_goi (by decide) (Nat.le_of_ble_eq_true rfl) wc_X2_isFirst ?_
  intro p e s m below meth cd ls C hw hl
  exact wX2_isFirst_0 C hX _ _ _ _ _ hf hw hl
end SX2_isFirst

def fX2_readName_20 (k42 : eM → Option (Int32 × eM)) (k54 : Int32 → eM → Option (Int32 × eM)) (a1 : Nat) : Nat → Int32 → Int32 → eM → Option (Int32 × eM)
  | 0, _, _, _ => none
  | n + 1, x2, x3, M => if x2 ≤ x3 then (k54 x2 M) else (if (nI (ea_len a1)) ≤ x3 then (k54 x2 M) else (ea_ck (ea_ix x3 (ea_len a1)) (if (lg_cmp (M.2.1 a1 x3.toNatClampNeg) (M.2.1 3 9)) = 0 then (k42 M) else (fX2_readName_20 k42 k54 a1 n x2 (x3 + (1 : Int32)) M))))
def fX2_readName_42 (a1 : Nat) (M : eM) : Option (Int32 × eM) := ea_ci (fX2_refuse (3 : Int32) M) (fun r2 M3 => ea_ck (ea_01 r2) (some (r2, M3)))
def fX2_readName_54 (a1 : Nat) (x2 : Int32) (M : eM) : Option (Int32 × eM) := if (nI (ea_len a1)) ≤ x2 then (some ((1 : Int32), M)) else (ea_ck (ea_ix x2 (ea_len a1)) (some ((1 : Int32), ea_pL M a1 (x2.toNatClampNeg) (M.2.1 3 9))))
def fX2_readName_0 (a1 : Nat) (x2 : Int32) (M : eM) : Option (Int32 × eM) := ea_cv (fX2_advance M) (fun M2 => if (M2.1 3 6) = (1 : Int32) then (fX2_readName_20 (fX2_readName_42 a1) (fX2_readName_54 a1) a1 ea_N x2 (0 : Int32) M2) else (ea_ci (fX2_refuse (1 : Int32) M2) (fun r5 M6 => ea_ck (ea_01 r5) (some (r5, M6)))))
def fX2_readName (a1 : Nat) (x2 : Int32) (M : eM) : Option (Int32 × eM) := fX2_readName_0 a1 x2 M
section SX2_readName
variable {p : Program} {l : Launch} {e : Env} {s : State} {m : MethodId} {args : Array Value} {below : List Frame} {meth : Method} {cd : Code} {E : eE} {ids : List Nat} {res : Int32 × eM} {a1 : Nat}
set_option maxHeartbeats 4000000 in
set_option maxRecDepth 20000 in
theorem wX2_readName_20 (C : ea_C p s m args meth cd cX2_readName 4 (some .boolean) RX2) (hX : ea_X ids) (ho1 : ea_ok ids a1 21) {k42 : eM → Option (Int32 × eM)} (hk42 : ∀  (M : eM) (H : Heap) (locs : List Loc) (ls : Array Slot), k42 M = some res → ea_w E ids M s H locs → lv_has ls 4 [(0, .ref (E.1 3))] → W p l e (ea_rm 2 42) s m args below meth cd H locs 0 0 (MQ below (ea_Qi E ids res) args s 0 0 (ea_Ad E ids)) (F0 m 42 ls [])) {k54 : Int32 → eM → Option (Int32 × eM)} (hk54 : ∀ (x2 : Int32) (M : eM) (H : Heap) (locs : List Loc) (ls : Array Slot), k54 x2 M = some res → ea_w E ids M s H locs → lv_has ls 4 [(0, .ref (E.1 3)), (1, .ref (E.1 a1)), (2, .int x2)] → W p l e (ea_rm 2 42) s m args below meth cd H locs 0 0 (MQ below (ea_Qi E ids res) args s 0 0 (ea_Ad E ids)) (F0 m 54 ls [])) : ∀ (n : Nat) (x2 : Int32) (x3 : Int32) (M : eM) (H : Heap) (locs : List Loc) (ls : Array Slot), fX2_readName_20 k42 k54 a1 n x2 x3 M = some res → ea_w E ids M s H locs → lv_has ls 4 [(0, .ref (E.1 3)), (1, .ref (E.1 a1)), (2, .int x2), (3, .int x3)] → W p l e (ea_rm 2 42) s m args below meth cd H locs 0 0 (MQ below (ea_Qi E ids res) args s 0 0 (ea_Ad E ids)) (F0 m 20 ls []) := by
  intro n
  induction n with
  | zero => intro x2 x3 M H locs ls hf; cases hf
  | succ n ih =>
    intro x2 x3 M H locs ls hf  hw hl
    replace hf := (fX2_readName_20.eq_2 ..).symm.trans hf
    refine lv_iload_n C.1 C.2.1 dX2_readName_20 rfl (lv_at hl 3 rfl) ?_
    refine lv_iload_n C.1 C.2.1 dX2_readName_21 rfl (lv_at hl 2 rfl) ?_
    refine lv_icmp_ge (tgt := 54) C.1 C.2.1 dX2_readName_22 (by decide) (fun hc1 => ?_) (fun hc1 => ?_)
    · replace hf := ea_if_t hc1 hf
      exact hk54 _ _ _ _ _ hf hw (lv_sub hl [0, 1, 2] rfl)
    · replace hf := ea_if_f hc1 hf
      refine lv_iload_n C.1 C.2.1 dX2_readName_25 rfl (lv_at hl 3 rfl) ?_
      refine lv_aload_n C.1 C.2.1 dX2_readName_26 rfl (lv_at hl 1 rfl) ?_
      refine ea_alen C hw ho1 (by decide) dX2_readName_27 ?_
      refine lv_icmp_ge (tgt := 54) C.1 C.2.1 dX2_readName_28 (by decide) (fun hc2 => ?_) (fun hc2 => ?_)
      · replace hf := ea_if_t hc2 hf
        exact hk54 _ _ _ _ _ hf hw (lv_sub hl [0, 1, 2] rfl)
      · replace hf := ea_if_f hc2 hf
        refine lv_aload_n C.1 C.2.1 dX2_readName_31 rfl (lv_at hl 1 rfl) ?_
        refine lv_iload_n C.1 C.2.1 dX2_readName_32 rfl (lv_at hl 3 rfl) ?_
        obtain ⟨hc3, hf⟩ := ea_ck_s hf
        refine ea_lald C hw ho1 hc3 dX2_readName_33 ?_
        refine lv_aload_n C.1 C.2.1 dX2_readName_34 rfl (lv_at hl 0 rfl) ?_
        refine gf_X2_62 C hw (hX 3 2 rfl) dX2_readName_35 ?_
        refine W.lcmp C.1 C.2.1 dX2_readName_38 ?_
        refine lv_if_ne (tgt := 48) C.1 C.2.1 dX2_readName_39 (by decide) (fun hc4 => ?_) (fun hc4 => ?_)
        · replace hf := ea_if_f hc4 hf
          refine lv_iinc (v := x3 + (1 : Int32)) (lv' := [(3, .int (x3 + (1 : Int32))), (0, .ref (E.1 3)), (1, .ref (E.1 a1)), (2, .int x2)]) C.1 C.2.1 dX2_readName_48 hl (k := 3) rfl rfl (by decide) rfl (fun ls hl => ?_)
          refine lv_goto (tgt := 20) C.1 C.2.1 dX2_readName_51 (by decide) ?_
          exact ih _ _ _ _ _ _ hf hw (lv_sub hl [1, 2, 3, 0] rfl)
        · replace hf := ea_if_t hc4 hf
          exact hk42 _ _ _ _ hf hw (lv_sub hl [0] rfl)
set_option maxHeartbeats 4000000 in
set_option maxRecDepth 20000 in
theorem wX2_readName_42 (C : ea_C p s m args meth cd cX2_readName 4 (some .boolean) RX2) (hX : ea_X ids) (ho1 : ea_ok ids a1 21) : ∀  (M : eM) (H : Heap) (locs : List Loc) (ls : Array Slot), fX2_readName_42 a1 M = some res → ea_w E ids M s H locs → lv_has ls 4 [(0, .ref (E.1 3))] → W p l e (ea_rm 2 42) s m args below meth cd H locs 0 0 (MQ below (ea_Qi E ids res) args s 0 0 (ea_Ad E ids)) (F0 m 42 ls []) := by
  intro M H locs ls hf  hw hl
  replace hf := (fX2_readName_42.eq_1 ..).symm.trans hf
  refine lv_aload_n C.1 C.2.1 dX2_readName_42 rfl (lv_at hl 0 rfl) ?_
  refine lv_iconst (v := 3) C.1 C.2.1 dX2_readName_43 (by decide) ?_
  obtain ⟨r2, M3, he1, hf⟩ := ea_ci_s hf
  refine ea_runi2 hw (cl_X2_138 C hw (hX 3 2 rfl) (As := [.int (3 : Int32)]) (rest := []) (mX2_refuse (l := l) (E := E) (ids := ids) hX he1) (by decide) rfl hl.1 rfl (Nat.le_of_ble_eq_true rfl) dX2_readName_44 ⟨Nat.le_refl _, Nat.le_refl _⟩) (fun H locs hw => ?_)
  obtain ⟨hc4, hf⟩ := ea_ck_s hf
  exact ea_zret C hw (ea_01_s hc4) hf dX2_readName_47
set_option maxHeartbeats 4000000 in
set_option maxRecDepth 20000 in
theorem wX2_readName_54 (C : ea_C p s m args meth cd cX2_readName 4 (some .boolean) RX2) (hX : ea_X ids) (ho1 : ea_ok ids a1 21) : ∀ (x2 : Int32) (M : eM) (H : Heap) (locs : List Loc) (ls : Array Slot), fX2_readName_54 a1 x2 M = some res → ea_w E ids M s H locs → lv_has ls 4 [(0, .ref (E.1 3)), (1, .ref (E.1 a1)), (2, .int x2)] → W p l e (ea_rm 2 42) s m args below meth cd H locs 0 0 (MQ below (ea_Qi E ids res) args s 0 0 (ea_Ad E ids)) (F0 m 54 ls []) := by
  intro x2 M H locs ls hf  hw hl
  replace hf := (fX2_readName_54.eq_1 ..).symm.trans hf
  refine lv_iload_n C.1 C.2.1 dX2_readName_54 rfl (lv_at hl 2 rfl) ?_
  refine lv_aload_n C.1 C.2.1 dX2_readName_55 rfl (lv_at hl 1 rfl) ?_
  refine ea_alen C hw ho1 (by decide) dX2_readName_56 ?_
  refine lv_icmp_ge (tgt := 67) C.1 C.2.1 dX2_readName_57 (by decide) (fun hc1 => ?_) (fun hc1 => ?_)
  · replace hf := ea_if_t hc1 hf
    refine lv_iconst (v := 1) C.1 C.2.1 dX2_readName_67 (by decide) ?_
    exact ea_zret C hw (by decide) hf dX2_readName_68
  · replace hf := ea_if_f hc1 hf
    refine lv_aload_n C.1 C.2.1 dX2_readName_60 rfl (lv_at hl 1 rfl) ?_
    refine lv_iload_n C.1 C.2.1 dX2_readName_61 rfl (lv_at hl 2 rfl) ?_
    refine lv_aload_n C.1 C.2.1 dX2_readName_62 rfl (lv_at hl 0 rfl) ?_
    refine gf_X2_62 C hw (hX 3 2 rfl) dX2_readName_63 ?_
    obtain ⟨hc2, hf⟩ := ea_ck_s hf
    refine ea_last C hw ho1 hc2 dX2_readName_66 (fun H locs hw => ?_)
    refine lv_iconst (v := 1) C.1 C.2.1 dX2_readName_67 (by decide) ?_
    exact ea_zret C hw (by decide) hf dX2_readName_68
set_option maxHeartbeats 4000000 in
set_option maxRecDepth 20000 in
theorem wX2_readName_0 (C : ea_C p s m args meth cd cX2_readName 4 (some .boolean) RX2) (hX : ea_X ids) (ho1 : ea_ok ids a1 21) : ∀ (x2 : Int32) (M : eM) (H : Heap) (locs : List Loc) (ls : Array Slot), fX2_readName_0 a1 x2 M = some res → ea_w E ids M s H locs → lv_has ls 4 [(0, .ref (E.1 3)), (1, .ref (E.1 a1)), (2, .int x2)] → W p l e (ea_rm 2 42) s m args below meth cd H locs 0 0 (MQ below (ea_Qi E ids res) args s 0 0 (ea_Ad E ids)) (F0 m 0 ls []) := by
  intro x2 M H locs ls hf  hw hl
  replace hf := (fX2_readName_0.eq_1 ..).symm.trans hf
  refine lv_aload_n C.1 C.2.1 dX2_readName_0 rfl (lv_at hl 0 rfl) ?_
  obtain ⟨M2, he1, hf⟩ := ea_cv_s hf
  refine ea_runv hw (cl_X2_37 C hw (hX 3 2 rfl) (As := []) (rest := []) (mX2_advance (l := l) (E := E) (ids := ids) hX he1) (by decide) rfl hl.1 rfl (Nat.le_of_ble_eq_true rfl) dX2_readName_1 ⟨Nat.le_refl _, Nat.le_refl _⟩) (fun H locs hw => ?_)
  refine lv_aload_n C.1 C.2.1 dX2_readName_4 rfl (lv_at hl 0 rfl) ?_
  refine gf_X2_40 C hw (hX 3 2 rfl) dX2_readName_5 ?_
  refine lv_iconst (v := 1) C.1 C.2.1 dX2_readName_8 (by decide) ?_
  refine lv_icmp_eq (tgt := 18) C.1 C.2.1 dX2_readName_9 (by decide) (fun hc3 => ?_) (fun hc3 => ?_)
  · replace hf := ea_if_t hc3 hf
    refine lv_iconst (v := 0) C.1 C.2.1 dX2_readName_18 (by decide) ?_
    refine lv_istore_n (lv' := [(3, .int (0 : Int32)), (0, .ref (E.1 3)), (1, .ref (E.1 a1)), (2, .int x2)]) C.1 C.2.1 dX2_readName_19 rfl hl (by decide) rfl (fun ls hl => ?_)
    exact wX2_readName_20 C hX ho1 (wX2_readName_42 C hX ho1) (wX2_readName_54 C hX ho1) ea_N _ _ _ _ _ _ hf hw (lv_sub hl [1, 2, 3, 0] rfl)
  · replace hf := ea_if_f hc3 hf
    refine lv_aload_n C.1 C.2.1 dX2_readName_12 rfl (lv_at hl 0 rfl) ?_
    refine lv_iconst (v := 1) C.1 C.2.1 dX2_readName_13 (by decide) ?_
    obtain ⟨r5, M6, he4, hf⟩ := ea_ci_s hf
    refine ea_runi2 hw (cl_X2_138 C hw (hX 3 2 rfl) (As := [.int (1 : Int32)]) (rest := []) (mX2_refuse (l := l) (E := E) (ids := ids) hX he4) (by decide) rfl hl.1 rfl (Nat.le_of_ble_eq_true rfl) dX2_readName_14 ⟨Nat.le_refl _, Nat.le_refl _⟩) (fun H locs hw => ?_)
    obtain ⟨hc7, hf⟩ := ea_ck_s hf
    exact ea_zret C hw (ea_01_s hc7) hf dX2_readName_17
set_option maxHeartbeats 4000000 in
set_option maxRecDepth 20000 in
theorem mX2_readName {l : Launch} {E : eE} {ids : List Nat} (hX : ea_X ids) {a1 : Nat} {x2 : Int32} (ho1 : ea_ok ids a1 21) {M : eM} {res : Int32 × eM} (hf : fX2_readName a1 x2 M = some res) : ea_Mi l yX2_readName cX2_readName 4 (some .boolean) 2 42 E ids [.ref (E.1 3), .ref (E.1 a1), .int x2] M res := by
  refine ea_goi (by decide) (Nat.le_of_ble_eq_true rfl) wc_X2_readName ?_
  intro p e s m below meth cd ls C hw hl
  exact wX2_readName_0 C hX ho1 _ _ _ _ _ hf hw hl
end SX2_readName

def fX2_readNumber_38 (M : eM) : Option (Int32 × eM) := some ((1 : Int32), M)
def fX2_readNumber_0 (x1 : Int32) (x2 : Int32) (M : eM) : Option (Int32 × eM) := ea_cv (fX2_advance M) (fun M2 => if (M2.1 3 6) = (2 : Int32) then (ea_ci (fX10_isWithin (M2.1 3 8) x1 x2 M2) (fun r5 M6 => if r5 = 0 then (ea_ci (fX2_refuse (2 : Int32) M6) (fun r9 M10 => if r9 = 0 then (some ((0 : Int32), M10)) else (fX2_readNumber_38 M10))) else (fX2_readNumber_38 M6))) else (ea_ci (fX2_refuse (1 : Int32) M2) (fun r13 M14 => ea_ck (ea_01 r13) (some (r13, M14)))))
def fX2_readNumber (x1 : Int32) (x2 : Int32) (M : eM) : Option (Int32 × eM) := fX2_readNumber_0 x1 x2 M
section SX2_readNumber
variable {p : Program} {l : Launch} {e : Env} {s : State} {m : MethodId} {args : Array Value} {below : List Frame} {meth : Method} {cd : Code} {E : eE} {ids : List Nat} {res : Int32 × eM}
set_option maxHeartbeats 4000000 in
set_option maxRecDepth 20000 in
theorem wX2_readNumber_38 (C : ea_C p s m args meth cd cX2_readNumber 3 (some .boolean) RX2) (hX : ea_X ids) : ∀  (M : eM) (H : Heap) (locs : List Loc) (ls : Array Slot), fX2_readNumber_38 M = some res → ea_w E ids M s H locs → lv_has ls 3 [] → W p l e (ea_rm 2 42) s m args below meth cd H locs 0 0 (MQ below (ea_Qi E ids res) args s 0 0 (ea_Ad E ids)) (F0 m 38 ls []) := by
  intro M H locs ls hf  hw hl
  replace hf := (fX2_readNumber_38.eq_1 ..).symm.trans hf
  refine lv_iconst (v := 1) C.1 C.2.1 dX2_readNumber_38 (by decide) ?_
  refine lv_goto (tgt := 43) C.1 C.2.1 dX2_readNumber_39 (by decide) ?_
  exact ea_zret C hw (by decide) hf dX2_readNumber_43
set_option maxHeartbeats 4000000 in
set_option maxRecDepth 20000 in
theorem wX2_readNumber_0 (C : ea_C p s m args meth cd cX2_readNumber 3 (some .boolean) RX2) (hX : ea_X ids) : ∀ (x1 : Int32) (x2 : Int32) (M : eM) (H : Heap) (locs : List Loc) (ls : Array Slot), fX2_readNumber_0 x1 x2 M = some res → ea_w E ids M s H locs → lv_has ls 3 [(0, .ref (E.1 3)), (1, .int x1), (2, .int x2)] → W p l e (ea_rm 2 42) s m args below meth cd H locs 0 0 (MQ below (ea_Qi E ids res) args s 0 0 (ea_Ad E ids)) (F0 m 0 ls []) := by
  intro x1 x2 M H locs ls hf  hw hl
  replace hf := (fX2_readNumber_0.eq_1 ..).symm.trans hf
  refine lv_aload_n C.1 C.2.1 dX2_readNumber_0 rfl (lv_at hl 0 rfl) ?_
  obtain ⟨M2, he1, hf⟩ := ea_cv_s hf
  refine ea_runv hw (cl_X2_37 C hw (hX 3 2 rfl) (As := []) (rest := []) (mX2_advance (l := l) (E := E) (ids := ids) hX he1) (by decide) rfl hl.1 rfl (Nat.le_of_ble_eq_true rfl) dX2_readNumber_1 ⟨Nat.le_refl _, Nat.le_refl _⟩) (fun H locs hw => ?_)
  refine lv_aload_n C.1 C.2.1 dX2_readNumber_4 rfl (lv_at hl 0 rfl) ?_
  refine gf_X2_40 C hw (hX 3 2 rfl) dX2_readNumber_5 ?_
  refine lv_iconst (v := 2) C.1 C.2.1 dX2_readNumber_8 (by decide) ?_
  refine lv_icmp_eq (tgt := 18) C.1 C.2.1 dX2_readNumber_9 (by decide) (fun hc3 => ?_) (fun hc3 => ?_)
  · replace hf := ea_if_t hc3 hf
    refine lv_aload_n C.1 C.2.1 dX2_readNumber_18 rfl (lv_at hl 0 rfl) ?_
    refine gf_X2_71 C hw (hX 3 2 rfl) dX2_readNumber_19 ?_
    refine lv_iload_n C.1 C.2.1 dX2_readNumber_22 rfl (lv_at hl 1 rfl) ?_
    refine lv_iload_n C.1 C.2.1 dX2_readNumber_23 rfl (lv_at hl 2 rfl) ?_
    obtain ⟨r5, M6, he4, hf⟩ := ea_ci_s hf
    refine ea_runi2 hw (cl_X2_141 C hw (As := [.int (M2.1 3 8), .int x1, .int x2]) (rest := []) (mX10_isWithin (l := l) (E := E) (ids := ids) hX he4) (by decide) rfl hl.1 rfl (Nat.le_of_ble_eq_true rfl) dX2_readNumber_24 ⟨Nat.le_refl _, Nat.le_refl _⟩) (fun H locs hw => ?_)
    refine lv_if_ne (tgt := 38) C.1 C.2.1 dX2_readNumber_27 (by decide) (fun hc7 => ?_) (fun hc7 => ?_)
    · replace hf := ea_if_f hc7 hf
      exact wX2_readNumber_38 C hX _ _ _ _ hf hw (lv_sub hl [] rfl)
    · replace hf := ea_if_t hc7 hf
      refine lv_aload_n C.1 C.2.1 dX2_readNumber_30 rfl (lv_at hl 0 rfl) ?_
      refine lv_iconst (v := 2) C.1 C.2.1 dX2_readNumber_31 (by decide) ?_
      obtain ⟨r9, M10, he8, hf⟩ := ea_ci_s hf
      refine ea_runi2 hw (cl_X2_138 C hw (hX 3 2 rfl) (As := [.int (2 : Int32)]) (rest := []) (mX2_refuse (l := l) (E := E) (ids := ids) hX he8) (by decide) rfl hl.1 rfl (Nat.le_of_ble_eq_true rfl) dX2_readNumber_32 ⟨Nat.le_refl _, Nat.le_refl _⟩) (fun H locs hw => ?_)
      refine lv_if_eq (tgt := 42) C.1 C.2.1 dX2_readNumber_35 (by decide) (fun hc11 => ?_) (fun hc11 => ?_)
      · replace hf := ea_if_t hc11 hf
        refine lv_iconst (v := 0) C.1 C.2.1 dX2_readNumber_42 (by decide) ?_
        exact ea_zret C hw (by decide) hf dX2_readNumber_43
      · replace hf := ea_if_f hc11 hf
        exact wX2_readNumber_38 C hX _ _ _ _ hf hw (lv_sub hl [] rfl)
  · replace hf := ea_if_f hc3 hf
    refine lv_aload_n C.1 C.2.1 dX2_readNumber_12 rfl (lv_at hl 0 rfl) ?_
    refine lv_iconst (v := 1) C.1 C.2.1 dX2_readNumber_13 (by decide) ?_
    obtain ⟨r13, M14, he12, hf⟩ := ea_ci_s hf
    refine ea_runi2 hw (cl_X2_138 C hw (hX 3 2 rfl) (As := [.int (1 : Int32)]) (rest := []) (mX2_refuse (l := l) (E := E) (ids := ids) hX he12) (by decide) rfl hl.1 rfl (Nat.le_of_ble_eq_true rfl) dX2_readNumber_14 ⟨Nat.le_refl _, Nat.le_refl _⟩) (fun H locs hw => ?_)
    obtain ⟨hc15, hf⟩ := ea_ck_s hf
    exact ea_zret C hw (ea_01_s hc15) hf dX2_readNumber_17
set_option maxHeartbeats 4000000 in
set_option maxRecDepth 20000 in
theorem mX2_readNumber {l : Launch} {E : eE} {ids : List Nat} (hX : ea_X ids) {x1 : Int32} {x2 : Int32} {M : eM} {res : Int32 × eM} (hf : fX2_readNumber x1 x2 M = some res) : ea_Mi l yX2_readNumber cX2_readNumber 3 (some .boolean) 2 42 E ids [.ref (E.1 3), .int x1, .int x2] M res := by
  refine ea_goi (by decide) (Nat.le_of_ble_eq_true rfl) wc_X2_readNumber ?_
  intro p e s m below meth cd ls C hw hl
  exact wX2_readNumber_0 C hX _ _ _ _ _ _ hf hw hl
end SX2_readNumber

def fX2_readRow_3 (a1 : Nat) : Nat → Int32 → Int32 → Int32 → eM → Option (Int32 × eM)
  | 0, _, _, _, _ => none
  | n + 1, x2, x3, x4, M => if (x2 + (3 : Int32)) ≤ x4 then (some ((1 : Int32), M)) else (if (nI (ea_len a1)) ≤ x4 then (some ((1 : Int32), M)) else (ea_ci (fX2_readNumber (0 : Int32) x3 M) (fun r4 M5 => if r4 = 0 then (some ((0 : Int32), M5)) else (ea_ck (ea_ix x4 (ea_len a1)) (fX2_readRow_3 a1 n x2 x3 (x4 + (1 : Int32)) (ea_pI M5 a1 (x4.toNatClampNeg) (M5.1 3 8)))))))
def fX2_readRow_0 (a1 : Nat) (x2 : Int32) (x3 : Int32) (M : eM) : Option (Int32 × eM) := fX2_readRow_3 a1 ea_N x2 x3 x2 M
def fX2_readRow (a1 : Nat) (x2 : Int32) (x3 : Int32) (M : eM) : Option (Int32 × eM) := fX2_readRow_0 a1 x2 x3 M
section SX2_readRow
variable {p : Program} {l : Launch} {e : Env} {s : State} {m : MethodId} {args : Array Value} {below : List Frame} {meth : Method} {cd : Code} {E : eE} {ids : List Nat} {res : Int32 × eM} {a1 : Nat}
set_option maxHeartbeats 4000000 in
set_option maxRecDepth 20000 in
theorem wX2_readRow_3 (C : ea_C p s m args meth cd cX2_readRow 5 (some .boolean) RX2) (hX : ea_X ids) (ho1 : ea_ok ids a1 20) : ∀ (n : Nat) (x2 : Int32) (x3 : Int32) (x4 : Int32) (M : eM) (H : Heap) (locs : List Loc) (ls : Array Slot), fX2_readRow_3 a1 n x2 x3 x4 M = some res → ea_w E ids M s H locs → lv_has ls 5 [(0, .ref (E.1 3)), (1, .ref (E.1 a1)), (2, .int x2), (3, .int x3), (4, .int x4)] → W p l e (ea_rm 3 64) s m args below meth cd H locs 0 0 (MQ below (ea_Qi E ids res) args s 0 0 (ea_Ad E ids)) (F0 m 3 ls []) := by
  intro n
  induction n with
  | zero => intro x2 x3 x4 M H locs ls hf; cases hf
  | succ n ih =>
    intro x2 x3 x4 M H locs ls hf  hw hl
    replace hf := (fX2_readRow_3.eq_2 ..).symm.trans hf
    refine lv_iload C.1 C.2.1 dX2_readRow_3 (lv_at hl 4 rfl) ?_
    refine lv_iload_n C.1 C.2.1 dX2_readRow_5 rfl (lv_at hl 2 rfl) ?_
    refine lv_iconst (v := 3) C.1 C.2.1 dX2_readRow_6 (by decide) ?_
    refine lv_iadd C.1 C.2.1 dX2_readRow_7 ?_
    refine lv_icmp_ge (tgt := 43) C.1 C.2.1 dX2_readRow_8 (by decide) (fun hc1 => ?_) (fun hc1 => ?_)
    · replace hf := ea_if_t hc1 hf
      refine lv_iconst (v := 1) C.1 C.2.1 dX2_readRow_43 (by decide) ?_
      exact ea_zret C hw (by decide) hf dX2_readRow_44
    · replace hf := ea_if_f hc1 hf
      refine lv_iload C.1 C.2.1 dX2_readRow_11 (lv_at hl 4 rfl) ?_
      refine lv_aload_n C.1 C.2.1 dX2_readRow_13 rfl (lv_at hl 1 rfl) ?_
      refine ea_alen C hw ho1 (by decide) dX2_readRow_14 ?_
      refine lv_icmp_ge (tgt := 43) C.1 C.2.1 dX2_readRow_15 (by decide) (fun hc2 => ?_) (fun hc2 => ?_)
      · replace hf := ea_if_t hc2 hf
        refine lv_iconst (v := 1) C.1 C.2.1 dX2_readRow_43 (by decide) ?_
        exact ea_zret C hw (by decide) hf dX2_readRow_44
      · replace hf := ea_if_f hc2 hf
        refine lv_aload_n C.1 C.2.1 dX2_readRow_18 rfl (lv_at hl 0 rfl) ?_
        refine lv_iconst (v := 0) C.1 C.2.1 dX2_readRow_19 (by decide) ?_
        refine lv_iload_n C.1 C.2.1 dX2_readRow_20 rfl (lv_at hl 3 rfl) ?_
        obtain ⟨r4, M5, he3, hf⟩ := ea_ci_s hf
        refine ea_runi2 hw (cl_X2_145 C hw (hX 3 2 rfl) (As := [.int (0 : Int32), .int x3]) (rest := []) (mX2_readNumber (l := l) (E := E) (ids := ids) hX he3) (by decide) rfl hl.1 rfl (Nat.le_of_ble_eq_true rfl) dX2_readRow_21 ⟨Nat.le_refl _, Nat.le_refl _⟩) (fun H locs hw => ?_)
        refine lv_if_ne (tgt := 29) C.1 C.2.1 dX2_readRow_24 (by decide) (fun hc6 => ?_) (fun hc6 => ?_)
        · replace hf := ea_if_f hc6 hf
          refine lv_aload_n C.1 C.2.1 dX2_readRow_29 rfl (lv_at hl 1 rfl) ?_
          refine lv_iload C.1 C.2.1 dX2_readRow_30 (lv_at hl 4 rfl) ?_
          refine lv_aload_n C.1 C.2.1 dX2_readRow_32 rfl (lv_at hl 0 rfl) ?_
          refine gf_X2_71 C hw (hX 3 2 rfl) dX2_readRow_33 ?_
          obtain ⟨hc7, hf⟩ := ea_ck_s hf
          refine ea_iast C hw ho1 hc7 dX2_readRow_36 (fun H locs hw => ?_)
          refine lv_iinc (v := x4 + (1 : Int32)) (lv' := [(4, .int (x4 + (1 : Int32))), (0, .ref (E.1 3)), (1, .ref (E.1 a1)), (2, .int x2), (3, .int x3)]) C.1 C.2.1 dX2_readRow_37 hl (k := 4) rfl rfl (by decide) rfl (fun ls hl => ?_)
          refine lv_goto (tgt := 3) C.1 C.2.1 dX2_readRow_40 (by decide) ?_
          exact ih _ _ _ _ _ _ _ hf hw (lv_sub hl [1, 2, 3, 4, 0] rfl)
        · replace hf := ea_if_t hc6 hf
          refine lv_iconst (v := 0) C.1 C.2.1 dX2_readRow_27 (by decide) ?_
          exact ea_zret C hw (by decide) hf dX2_readRow_28
set_option maxHeartbeats 4000000 in
set_option maxRecDepth 20000 in
theorem wX2_readRow_0 (C : ea_C p s m args meth cd cX2_readRow 5 (some .boolean) RX2) (hX : ea_X ids) (ho1 : ea_ok ids a1 20) : ∀ (x2 : Int32) (x3 : Int32) (M : eM) (H : Heap) (locs : List Loc) (ls : Array Slot), fX2_readRow_0 a1 x2 x3 M = some res → ea_w E ids M s H locs → lv_has ls 5 [(0, .ref (E.1 3)), (1, .ref (E.1 a1)), (2, .int x2), (3, .int x3)] → W p l e (ea_rm 3 64) s m args below meth cd H locs 0 0 (MQ below (ea_Qi E ids res) args s 0 0 (ea_Ad E ids)) (F0 m 0 ls []) := by
  intro x2 x3 M H locs ls hf  hw hl
  replace hf := (fX2_readRow_0.eq_1 ..).symm.trans hf
  refine lv_iload_n C.1 C.2.1 dX2_readRow_0 rfl (lv_at hl 2 rfl) ?_
  refine lv_istore (lv' := [(4, .int x2), (0, .ref (E.1 3)), (1, .ref (E.1 a1)), (2, .int x2), (3, .int x3)]) C.1 C.2.1 dX2_readRow_1 hl (by decide) rfl (fun ls hl => ?_)
  exact wX2_readRow_3 C hX ho1 ea_N _ _ _ _ _ _ _ hf hw (lv_sub hl [1, 2, 3, 4, 0] rfl)
set_option maxHeartbeats 4000000 in
set_option maxRecDepth 20000 in
theorem mX2_readRow {l : Launch} {E : eE} {ids : List Nat} (hX : ea_X ids) {a1 : Nat} {x2 : Int32} {x3 : Int32} (ho1 : ea_ok ids a1 20) {M : eM} {res : Int32 × eM} (hf : fX2_readRow a1 x2 x3 M = some res) : ea_Mi l yX2_readRow cX2_readRow 5 (some .boolean) 3 64 E ids [.ref (E.1 3), .ref (E.1 a1), .int x2, .int x3] M res := by
  refine ea_goi (by decide) (Nat.le_of_ble_eq_true rfl) wc_X2_readRow ?_
  intro p e s m below meth cd ls C hw hl
  exact wX2_readRow_0 C hX ho1 _ _ _ _ _ _ hf hw hl
end SX2_readRow

def fX2_readMender_40 (x1 : Int32) (t0 : Int32) (M : eM) : Option (Int32 × eM) := ea_ci (fX2_readNumber t0 (999 : Int32) M) (fun r2 M3 => if r2 = 0 then (some ((0 : Int32), M3)) else (ea_ck (ea_is (M3.2.2 3 3) 1) (ea_ck (ea_ix x1 (ea_len (M3.2.2 3 3 + 2))) (ea_ck (ea_is ((ea_pI M3 (M3.2.2 3 3 + 2) (x1.toNatClampNeg) (M3.1 3 8)).2.2 3 3) 1) (some ((1 : Int32), ea_pI (ea_pI M3 (M3.2.2 3 3 + 2) (x1.toNatClampNeg) (M3.1 3 8)) ((ea_pI M3 (M3.2.2 3 3 + 2) (x1.toNatClampNeg) (M3.1 3 8)).2.2 3 3) 6 (((ea_pI M3 (M3.2.2 3 3 + 2) (x1.toNatClampNeg) (M3.1 3 8)).1 ((ea_pI M3 (M3.2.2 3 3 + 2) (x1.toNatClampNeg) (M3.1 3 8)).2.2 3 3) 6) + (1 : Int32))))))))
def fX2_readMender_0 (M : eM) : Option (Int32 × eM) := ea_ck (ea_is (M.2.2 3 3) 1) (if (M.1 (M.2.2 3 3) 6) < (3 : Int32) then (if (M.1 (M.2.2 3 3) 6) = 0 then (fX2_readMender_40 (M.1 (M.2.2 3 3) 6) (1 : Int32) M) else (ea_ck (ea_is (M.2.2 3 3) 1) (ea_ck (ea_ix ((M.1 (M.2.2 3 3) 6) - (1 : Int32)) (ea_len (M.2.2 3 3 + 2))) (fX2_readMender_40 (M.1 (M.2.2 3 3) 6) ((M.1 (M.2.2 3 3 + 2) ((M.1 (M.2.2 3 3) 6) - (1 : Int32)).toNatClampNeg) + (1 : Int32)) M)))) else (ea_ci (fX2_refuse (4 : Int32) M) (fun r7 M8 => ea_ck (ea_01 r7) (some (r7, M8)))))
def fX2_readMender (M : eM) : Option (Int32 × eM) := fX2_readMender_0 M
section SX2_readMender
variable {p : Program} {l : Launch} {e : Env} {s : State} {m : MethodId} {args : Array Value} {below : List Frame} {meth : Method} {cd : Code} {E : eE} {ids : List Nat} {res : Int32 × eM}
set_option maxHeartbeats 4000000 in
set_option maxRecDepth 20000 in
theorem wX2_readMender_40 (C : ea_C p s m args meth cd cX2_readMender 3 (some .boolean) RX2) (hX : ea_X ids) : ∀ (x1 : Int32) (t0 : Int32) (M : eM) (H : Heap) (locs : List Loc) (ls : Array Slot), fX2_readMender_40 x1 t0 M = some res → ea_w E ids M s H locs → lv_has ls 3 [(0, .ref (E.1 3)), (1, .int x1)] → W p l e (ea_rm 3 64) s m args below meth cd H locs 0 0 (MQ below (ea_Qi E ids res) args s 0 0 (ea_Ad E ids)) (F0 m 40 ls [.int t0]) := by
  intro x1 t0 M H locs ls hf  hw hl
  replace hf := (fX2_readMender_40.eq_1 ..).symm.trans hf
  refine lv_istore_n (lv' := [(2, .int t0), (0, .ref (E.1 3)), (1, .int x1)]) C.1 C.2.1 dX2_readMender_40 rfl hl (by decide) rfl (fun ls hl => ?_)
  refine lv_aload_n C.1 C.2.1 dX2_readMender_41 rfl (lv_at hl 1 rfl) ?_
  refine lv_iload_n C.1 C.2.1 dX2_readMender_42 rfl (lv_at hl 0 rfl) ?_
  refine lv_sipush (v := 999) C.1 C.2.1 dX2_readMender_43 (by decide) ?_
  obtain ⟨r2, M3, he1, hf⟩ := ea_ci_s hf
  refine ea_runi2 hw (cl_X2_145 C hw (hX 3 2 rfl) (As := [.int t0, .int (999 : Int32)]) (rest := []) (mX2_readNumber (l := l) (E := E) (ids := ids) hX he1) (by decide) rfl hl.1 rfl (Nat.le_of_ble_eq_true rfl) dX2_readMender_46 ⟨Nat.le_refl _, Nat.le_refl _⟩) (fun H locs hw => ?_)
  refine lv_if_ne (tgt := 54) C.1 C.2.1 dX2_readMender_49 (by decide) (fun hc4 => ?_) (fun hc4 => ?_)
  · replace hf := ea_if_f hc4 hf
    refine lv_aload_n C.1 C.2.1 dX2_readMender_54 rfl (lv_at hl 1 rfl) ?_
    refine gf_X2_22 C hw (hX 3 2 rfl) dX2_readMender_55 ?_
    obtain ⟨hc5, hf⟩ := ea_ck_s hf
    refine gf_X2_162 C hw (ea_dyn hX hc5) dX2_readMender_58 ?_
    refine lv_iload_n C.1 C.2.1 dX2_readMender_61 rfl (lv_at hl 2 rfl) ?_
    refine lv_aload_n C.1 C.2.1 dX2_readMender_62 rfl (lv_at hl 1 rfl) ?_
    refine gf_X2_71 C hw (hX 3 2 rfl) dX2_readMender_63 ?_
    obtain ⟨hc6, hf⟩ := ea_ck_s hf
    refine ea_iast C hw (ok_1_7 (ea_dyn hX hc5)) hc6 dX2_readMender_66 (fun H locs hw => ?_)
    refine lv_aload_n C.1 C.2.1 dX2_readMender_67 rfl (lv_at hl 1 rfl) ?_
    refine gf_X2_22 C hw (hX 3 2 rfl) dX2_readMender_68 ?_
    obtain ⟨hc7, hf⟩ := ea_ck_s hf
    refine lv_dup C.1 C.2.1 dX2_readMender_71 rfl ?_
    refine gf_X2_159 C hw (ea_dyn hX hc7) dX2_readMender_72 ?_
    refine lv_iconst (v := 1) C.1 C.2.1 dX2_readMender_75 (by decide) ?_
    refine lv_iadd C.1 C.2.1 dX2_readMender_76 ?_
    refine pu_X2_159 C hw (ea_dyn hX hc7) dX2_readMender_77 (fun H locs hw => ?_)
    refine lv_iconst (v := 1) C.1 C.2.1 dX2_readMender_80 (by decide) ?_
    exact ea_zret C hw (by decide) hf dX2_readMender_81
  · replace hf := ea_if_t hc4 hf
    refine lv_iconst (v := 0) C.1 C.2.1 dX2_readMender_52 (by decide) ?_
    exact ea_zret C hw (by decide) hf dX2_readMender_53
set_option maxHeartbeats 4000000 in
set_option maxRecDepth 20000 in
theorem wX2_readMender_0 (C : ea_C p s m args meth cd cX2_readMender 3 (some .boolean) RX2) (hX : ea_X ids) : ∀  (M : eM) (H : Heap) (locs : List Loc) (ls : Array Slot), fX2_readMender_0 M = some res → ea_w E ids M s H locs → lv_has ls 3 [(0, .ref (E.1 3))] → W p l e (ea_rm 3 64) s m args below meth cd H locs 0 0 (MQ below (ea_Qi E ids res) args s 0 0 (ea_Ad E ids)) (F0 m 0 ls []) := by
  intro M H locs ls hf  hw hl
  replace hf := (fX2_readMender_0.eq_1 ..).symm.trans hf
  refine lv_aload_n C.1 C.2.1 dX2_readMender_0 rfl (lv_at hl 0 rfl) ?_
  refine gf_X2_22 C hw (hX 3 2 rfl) dX2_readMender_1 ?_
  obtain ⟨hc1, hf⟩ := ea_ck_s hf
  refine gf_X2_159 C hw (ea_dyn hX hc1) dX2_readMender_4 ?_
  refine lv_istore_n (lv' := [(1, .int (M.1 (M.2.2 3 3) 6)), (0, .ref (E.1 3))]) C.1 C.2.1 dX2_readMender_7 rfl hl (by decide) rfl (fun ls hl => ?_)
  refine lv_iload_n C.1 C.2.1 dX2_readMender_8 rfl (lv_at hl 0 rfl) ?_
  refine lv_iconst (v := 3) C.1 C.2.1 dX2_readMender_9 (by decide) ?_
  refine lv_icmp_lt (tgt := 19) C.1 C.2.1 dX2_readMender_10 (by decide) (fun hc2 => ?_) (fun hc2 => ?_)
  · replace hf := ea_if_t hc2 hf
    refine lv_iload_n C.1 C.2.1 dX2_readMender_19 rfl (lv_at hl 0 rfl) ?_
    refine lv_if_ne (tgt := 27) C.1 C.2.1 dX2_readMender_20 (by decide) (fun hc3 => ?_) (fun hc3 => ?_)
    · replace hf := ea_if_f hc3 hf
      refine lv_aload_n C.1 C.2.1 dX2_readMender_27 rfl (lv_at hl 1 rfl) ?_
      refine gf_X2_22 C hw (hX 3 2 rfl) dX2_readMender_28 ?_
      obtain ⟨hc4, hf⟩ := ea_ck_s hf
      refine gf_X2_162 C hw (ea_dyn hX hc4) dX2_readMender_31 ?_
      refine lv_iload_n C.1 C.2.1 dX2_readMender_34 rfl (lv_at hl 0 rfl) ?_
      refine lv_iconst (v := 1) C.1 C.2.1 dX2_readMender_35 (by decide) ?_
      refine lv_isub C.1 C.2.1 dX2_readMender_36 ?_
      obtain ⟨hc5, hf⟩ := ea_ck_s hf
      refine ea_iald C hw (ok_1_7 (ea_dyn hX hc4)) hc5 dX2_readMender_37 ?_
      refine lv_iconst (v := 1) C.1 C.2.1 dX2_readMender_38 (by decide) ?_
      refine lv_iadd C.1 C.2.1 dX2_readMender_39 ?_
      exact wX2_readMender_40 C hX _ _ _ _ _ _ hf hw (lv_sub hl [1, 0] rfl)
    · replace hf := ea_if_t hc3 hf
      refine lv_iconst (v := 1) C.1 C.2.1 dX2_readMender_23 (by decide) ?_
      refine lv_goto (tgt := 40) C.1 C.2.1 dX2_readMender_24 (by decide) ?_
      exact wX2_readMender_40 C hX _ _ _ _ _ _ hf hw (lv_sub hl [1, 0] rfl)
  · replace hf := ea_if_f hc2 hf
    refine lv_aload_n C.1 C.2.1 dX2_readMender_13 rfl (lv_at hl 1 rfl) ?_
    refine lv_iconst (v := 4) C.1 C.2.1 dX2_readMender_14 (by decide) ?_
    obtain ⟨r7, M8, he6, hf⟩ := ea_ci_s hf
    refine ea_runi2 hw (cl_X2_138 C hw (hX 3 2 rfl) (As := [.int (4 : Int32)]) (rest := []) (mX2_refuse (l := l) (E := E) (ids := ids) hX he6) (by decide) rfl hl.1 rfl (Nat.le_of_ble_eq_true rfl) dX2_readMender_15 ⟨Nat.le_refl _, Nat.le_refl _⟩) (fun H locs hw => ?_)
    obtain ⟨hc9, hf⟩ := ea_ck_s hf
    exact ea_zret C hw (ea_01_s hc9) hf dX2_readMender_18
set_option maxHeartbeats 4000000 in
set_option maxRecDepth 20000 in
theorem mX2_readMender {l : Launch} {E : eE} {ids : List Nat} (hX : ea_X ids) {M : eM} {res : Int32 × eM} (hf : fX2_readMender M = some res) : ea_Mi l yX2_readMender cX2_readMender 3 (some .boolean) 3 64 E ids [.ref (E.1 3)] M res := by
  refine ea_goi (by decide) (Nat.le_of_ble_eq_true rfl) wc_X2_readMender ?_
  intro p e s m below meth cd ls C hw hl
  exact wX2_readMender_0 C hX  _ _ _ _ hf hw hl
end SX2_readMender

def fX2_readMost_0 (M : eM) : Option (Int32 × eM) := ea_ci (fX2_readNumber (1 : Int32) (2 : Int32) M) (fun r2 M3 => if r2 = 0 then (some ((0 : Int32), M3)) else (ea_ck (ea_is (M3.2.2 3 3) 1) (some ((1 : Int32), ea_pI M3 (M3.2.2 3 3) 3 (M3.1 3 8)))))
def fX2_readMost (M : eM) : Option (Int32 × eM) := fX2_readMost_0 M
section SX2_readMost
variable {p : Program} {l : Launch} {e : Env} {s : State} {m : MethodId} {args : Array Value} {below : List Frame} {meth : Method} {cd : Code} {E : eE} {ids : List Nat} {res : Int32 × eM}
set_option maxHeartbeats 4000000 in
set_option maxRecDepth 20000 in
theorem wX2_readMost_0 (C : ea_C p s m args meth cd cX2_readMost 1 (some .boolean) RX2) (hX : ea_X ids) : ∀  (M : eM) (H : Heap) (locs : List Loc) (ls : Array Slot), fX2_readMost_0 M = some res → ea_w E ids M s H locs → lv_has ls 1 [(0, .ref (E.1 3))] → W p l e (ea_rm 3 64) s m args below meth cd H locs 0 0 (MQ below (ea_Qi E ids res) args s 0 0 (ea_Ad E ids)) (F0 m 0 ls []) := by
  intro M H locs ls hf  hw hl
  replace hf := (fX2_readMost_0.eq_1 ..).symm.trans hf
  refine lv_aload_n C.1 C.2.1 dX2_readMost_0 rfl (lv_at hl 0 rfl) ?_
  refine lv_iconst (v := 1) C.1 C.2.1 dX2_readMost_1 (by decide) ?_
  refine lv_iconst (v := 2) C.1 C.2.1 dX2_readMost_2 (by decide) ?_
  obtain ⟨r2, M3, he1, hf⟩ := ea_ci_s hf
  refine ea_runi2 hw (cl_X2_145 C hw (hX 3 2 rfl) (As := [.int (1 : Int32), .int (2 : Int32)]) (rest := []) (mX2_readNumber (l := l) (E := E) (ids := ids) hX he1) (by decide) rfl hl.1 rfl (Nat.le_of_ble_eq_true rfl) dX2_readMost_3 ⟨Nat.le_refl _, Nat.le_refl _⟩) (fun H locs hw => ?_)
  refine lv_if_ne (tgt := 11) C.1 C.2.1 dX2_readMost_6 (by decide) (fun hc4 => ?_) (fun hc4 => ?_)
  · replace hf := ea_if_f hc4 hf
    refine lv_aload_n C.1 C.2.1 dX2_readMost_11 rfl (lv_at hl 0 rfl) ?_
    refine gf_X2_22 C hw (hX 3 2 rfl) dX2_readMost_12 ?_
    obtain ⟨hc5, hf⟩ := ea_ck_s hf
    refine lv_aload_n C.1 C.2.1 dX2_readMost_15 rfl (lv_at hl 0 rfl) ?_
    refine gf_X2_71 C hw (hX 3 2 rfl) dX2_readMost_16 ?_
    refine pu_X2_157 C hw (ea_dyn hX hc5) dX2_readMost_19 (fun H locs hw => ?_)
    refine lv_iconst (v := 1) C.1 C.2.1 dX2_readMost_22 (by decide) ?_
    exact ea_zret C hw (by decide) hf dX2_readMost_23
  · replace hf := ea_if_t hc4 hf
    refine lv_iconst (v := 0) C.1 C.2.1 dX2_readMost_9 (by decide) ?_
    exact ea_zret C hw (by decide) hf dX2_readMost_10
set_option maxHeartbeats 4000000 in
set_option maxRecDepth 20000 in
theorem mX2_readMost {l : Launch} {E : eE} {ids : List Nat} (hX : ea_X ids) {M : eM} {res : Int32 × eM} (hf : fX2_readMost M = some res) : ea_Mi l yX2_readMost cX2_readMost 1 (some .boolean) 3 64 E ids [.ref (E.1 3)] M res := by
  refine ea_goi (by decide) (Nat.le_of_ble_eq_true rfl) wc_X2_readMost ?_
  intro p e s m below meth cd ls C hw hl
  exact wX2_readMost_0 C hX  _ _ _ _ hf hw hl
end SX2_readMost

def fX2_readSize_0 (M : eM) : Option (Int32 × eM) := ea_ci (fX2_readNumber (1 : Int32) (8 : Int32) M) (fun r2 M3 => if r2 = 0 then (some ((0 : Int32), M3)) else (ea_ck (ea_is (M3.2.2 3 3) 1) (ea_ci (fX2_readNumber (1 : Int32) (6 : Int32) (ea_pI M3 (M3.2.2 3 3) 0 (M3.1 3 8))) (fun r7 M8 => if r7 = 0 then (some ((0 : Int32), M8)) else (ea_ck (ea_is (M8.2.2 3 3) 1) (some ((1 : Int32), ea_pI M8 (M8.2.2 3 3) 1 (M8.1 3 8))))))))
def fX2_readSize (M : eM) : Option (Int32 × eM) := fX2_readSize_0 M
section SX2_readSize
variable {p : Program} {l : Launch} {e : Env} {s : State} {m : MethodId} {args : Array Value} {below : List Frame} {meth : Method} {cd : Code} {E : eE} {ids : List Nat} {res : Int32 × eM}
set_option maxHeartbeats 4000000 in
set_option maxRecDepth 20000 in
theorem wX2_readSize_0 (C : ea_C p s m args meth cd cX2_readSize 1 (some .boolean) RX2) (hX : ea_X ids) : ∀  (M : eM) (H : Heap) (locs : List Loc) (ls : Array Slot), fX2_readSize_0 M = some res → ea_w E ids M s H locs → lv_has ls 1 [(0, .ref (E.1 3))] → W p l e (ea_rm 3 64) s m args below meth cd H locs 0 0 (MQ below (ea_Qi E ids res) args s 0 0 (ea_Ad E ids)) (F0 m 0 ls []) := by
  intro M H locs ls hf  hw hl
  replace hf := (fX2_readSize_0.eq_1 ..).symm.trans hf
  refine lv_aload_n C.1 C.2.1 dX2_readSize_0 rfl (lv_at hl 0 rfl) ?_
  refine lv_iconst (v := 1) C.1 C.2.1 dX2_readSize_1 (by decide) ?_
  refine lv_bipush (v := 8) C.1 C.2.1 dX2_readSize_2 (by decide) ?_
  obtain ⟨r2, M3, he1, hf⟩ := ea_ci_s hf
  refine ea_runi2 hw (cl_X2_145 C hw (hX 3 2 rfl) (As := [.int (1 : Int32), .int (8 : Int32)]) (rest := []) (mX2_readNumber (l := l) (E := E) (ids := ids) hX he1) (by decide) rfl hl.1 rfl (Nat.le_of_ble_eq_true rfl) dX2_readSize_4 ⟨Nat.le_refl _, Nat.le_refl _⟩) (fun H locs hw => ?_)
  refine lv_if_ne (tgt := 12) C.1 C.2.1 dX2_readSize_7 (by decide) (fun hc4 => ?_) (fun hc4 => ?_)
  · replace hf := ea_if_f hc4 hf
    refine lv_aload_n C.1 C.2.1 dX2_readSize_12 rfl (lv_at hl 0 rfl) ?_
    refine gf_X2_22 C hw (hX 3 2 rfl) dX2_readSize_13 ?_
    obtain ⟨hc5, hf⟩ := ea_ck_s hf
    refine lv_aload_n C.1 C.2.1 dX2_readSize_16 rfl (lv_at hl 0 rfl) ?_
    refine gf_X2_71 C hw (hX 3 2 rfl) dX2_readSize_17 ?_
    refine pu_X2_149 C hw (ea_dyn hX hc5) dX2_readSize_20 (fun H locs hw => ?_)
    refine lv_aload_n C.1 C.2.1 dX2_readSize_23 rfl (lv_at hl 0 rfl) ?_
    refine lv_iconst (v := 1) C.1 C.2.1 dX2_readSize_24 (by decide) ?_
    refine lv_bipush (v := 6) C.1 C.2.1 dX2_readSize_25 (by decide) ?_
    obtain ⟨r7, M8, he6, hf⟩ := ea_ci_s hf
    refine ea_runi2 hw (cl_X2_145 C hw (hX 3 2 rfl) (As := [.int (1 : Int32), .int (6 : Int32)]) (rest := []) (mX2_readNumber (l := l) (E := E) (ids := ids) hX he6) (by decide) rfl hl.1 rfl (Nat.le_of_ble_eq_true rfl) dX2_readSize_27 ⟨Nat.le_refl _, Nat.le_refl _⟩) (fun H locs hw => ?_)
    refine lv_if_ne (tgt := 35) C.1 C.2.1 dX2_readSize_30 (by decide) (fun hc9 => ?_) (fun hc9 => ?_)
    · replace hf := ea_if_f hc9 hf
      refine lv_aload_n C.1 C.2.1 dX2_readSize_35 rfl (lv_at hl 0 rfl) ?_
      refine gf_X2_22 C hw (hX 3 2 rfl) dX2_readSize_36 ?_
      obtain ⟨hc10, hf⟩ := ea_ck_s hf
      refine lv_aload_n C.1 C.2.1 dX2_readSize_39 rfl (lv_at hl 0 rfl) ?_
      refine gf_X2_71 C hw (hX 3 2 rfl) dX2_readSize_40 ?_
      refine pu_X2_152 C hw (ea_dyn hX hc10) dX2_readSize_43 (fun H locs hw => ?_)
      refine lv_iconst (v := 1) C.1 C.2.1 dX2_readSize_46 (by decide) ?_
      exact ea_zret C hw (by decide) hf dX2_readSize_47
    · replace hf := ea_if_t hc9 hf
      refine lv_iconst (v := 0) C.1 C.2.1 dX2_readSize_33 (by decide) ?_
      exact ea_zret C hw (by decide) hf dX2_readSize_34
  · replace hf := ea_if_t hc4 hf
    refine lv_iconst (v := 0) C.1 C.2.1 dX2_readSize_10 (by decide) ?_
    exact ea_zret C hw (by decide) hf dX2_readSize_11
set_option maxHeartbeats 4000000 in
set_option maxRecDepth 20000 in
theorem mX2_readSize {l : Launch} {E : eE} {ids : List Nat} (hX : ea_X ids) {M : eM} {res : Int32 × eM} (hf : fX2_readSize M = some res) : ea_Mi l yX2_readSize cX2_readSize 1 (some .boolean) 3 64 E ids [.ref (E.1 3)] M res := by
  refine ea_goi (by decide) (Nat.le_of_ble_eq_true rfl) wc_X2_readSize ?_
  intro p e s m below meth cd ls C hw hl
  exact wX2_readSize_0 C hX  _ _ _ _ hf hw hl
end SX2_readSize

def fX2_readSlack_0 (M : eM) : Option (Int32 × eM) := ea_ci (fX2_readNumber (0 : Int32) (20 : Int32) M) (fun r2 M3 => if r2 = 0 then (some ((0 : Int32), M3)) else (ea_ck (ea_is (M3.2.2 3 3) 1) (some ((1 : Int32), ea_pI M3 (M3.2.2 3 3) 2 (M3.1 3 8)))))
def fX2_readSlack (M : eM) : Option (Int32 × eM) := fX2_readSlack_0 M
section SX2_readSlack
variable {p : Program} {l : Launch} {e : Env} {s : State} {m : MethodId} {args : Array Value} {below : List Frame} {meth : Method} {cd : Code} {E : eE} {ids : List Nat} {res : Int32 × eM}
set_option maxHeartbeats 4000000 in
set_option maxRecDepth 20000 in
theorem wX2_readSlack_0 (C : ea_C p s m args meth cd cX2_readSlack 1 (some .boolean) RX2) (hX : ea_X ids) : ∀  (M : eM) (H : Heap) (locs : List Loc) (ls : Array Slot), fX2_readSlack_0 M = some res → ea_w E ids M s H locs → lv_has ls 1 [(0, .ref (E.1 3))] → W p l e (ea_rm 3 64) s m args below meth cd H locs 0 0 (MQ below (ea_Qi E ids res) args s 0 0 (ea_Ad E ids)) (F0 m 0 ls []) := by
  intro M H locs ls hf  hw hl
  replace hf := (fX2_readSlack_0.eq_1 ..).symm.trans hf
  refine lv_aload_n C.1 C.2.1 dX2_readSlack_0 rfl (lv_at hl 0 rfl) ?_
  refine lv_iconst (v := 0) C.1 C.2.1 dX2_readSlack_1 (by decide) ?_
  refine lv_bipush (v := 20) C.1 C.2.1 dX2_readSlack_2 (by decide) ?_
  obtain ⟨r2, M3, he1, hf⟩ := ea_ci_s hf
  refine ea_runi2 hw (cl_X2_145 C hw (hX 3 2 rfl) (As := [.int (0 : Int32), .int (20 : Int32)]) (rest := []) (mX2_readNumber (l := l) (E := E) (ids := ids) hX he1) (by decide) rfl hl.1 rfl (Nat.le_of_ble_eq_true rfl) dX2_readSlack_4 ⟨Nat.le_refl _, Nat.le_refl _⟩) (fun H locs hw => ?_)
  refine lv_if_ne (tgt := 12) C.1 C.2.1 dX2_readSlack_7 (by decide) (fun hc4 => ?_) (fun hc4 => ?_)
  · replace hf := ea_if_f hc4 hf
    refine lv_aload_n C.1 C.2.1 dX2_readSlack_12 rfl (lv_at hl 0 rfl) ?_
    refine gf_X2_22 C hw (hX 3 2 rfl) dX2_readSlack_13 ?_
    obtain ⟨hc5, hf⟩ := ea_ck_s hf
    refine lv_aload_n C.1 C.2.1 dX2_readSlack_16 rfl (lv_at hl 0 rfl) ?_
    refine gf_X2_71 C hw (hX 3 2 rfl) dX2_readSlack_17 ?_
    refine pu_X2_155 C hw (ea_dyn hX hc5) dX2_readSlack_20 (fun H locs hw => ?_)
    refine lv_iconst (v := 1) C.1 C.2.1 dX2_readSlack_23 (by decide) ?_
    exact ea_zret C hw (by decide) hf dX2_readSlack_24
  · replace hf := ea_if_t hc4 hf
    refine lv_iconst (v := 0) C.1 C.2.1 dX2_readSlack_10 (by decide) ?_
    exact ea_zret C hw (by decide) hf dX2_readSlack_11
set_option maxHeartbeats 4000000 in
set_option maxRecDepth 20000 in
theorem mX2_readSlack {l : Launch} {E : eE} {ids : List Nat} (hX : ea_X ids) {M : eM} {res : Int32 × eM} (hf : fX2_readSlack M = some res) : ea_Mi l yX2_readSlack cX2_readSlack 1 (some .boolean) 3 64 E ids [.ref (E.1 3)] M res := by
  refine ea_goi (by decide) (Nat.le_of_ble_eq_true rfl) wc_X2_readSlack ?_
  intro p e s m below meth cd ls C hw hl
  exact wX2_readSlack_0 C hX  _ _ _ _ hf hw hl
end SX2_readSlack

def fX2_readStuff_42 (k99 : eM → Option (Int32 × eM)) : Nat → Int32 → eM → Option (Int32 × eM)
  | 0, _, _ => none
  | n + 1, x1, M => if (6 : Int32) ≤ x1 then (k99 M) else (ea_ck (ea_ix x1 6) (ea_ck (ea_ix x1 6) (ea_ci (fX2_readNumber ((ea_ta.getD 0 []).getD x1.toNatClampNeg 0) ((ea_ta.getD 1 []).getD x1.toNatClampNeg 0) M) (fun r5 M6 => if r5 = 0 then (some ((0 : Int32), M6)) else (ea_ck (ea_is (M6.2.2 3 3) 1) (ea_ck (ea_is (M6.2.2 3 3) 1) (ea_ck (ea_ix (((M6.1 (M6.2.2 3 3) 8) * (6 : Int32)) + x1) (ea_len (M6.2.2 3 3 + 4))) (fX2_readStuff_42 k99 n (x1 + (1 : Int32)) (ea_pI M6 (M6.2.2 3 3 + 4) ((((M6.1 (M6.2.2 3 3) 8) * (6 : Int32)) + x1).toNatClampNeg) (M6.1 3 8))))))))))
def fX2_readStuff_99 (M : eM) : Option (Int32 × eM) := ea_ck (ea_is (M.2.2 3 3) 1) (some ((1 : Int32), ea_pI M (M.2.2 3 3) 8 ((M.1 (M.2.2 3 3) 8) + (1 : Int32))))
def fX2_readStuff_0 (M : eM) : Option (Int32 × eM) := ea_ck (ea_is (M.2.2 3 3) 1) (if (M.1 (M.2.2 3 3) 8) < (5 : Int32) then (ea_ck (ea_is (M.2.2 3 3) 1) (ea_ck (ea_is (M.2.2 3 3) 1) (ea_ci (fX2_readName (M.2.2 3 3 + 3) (M.1 (M.2.2 3 3) 8) M) (fun r6 M7 => if r6 = 0 then (some ((0 : Int32), M7)) else (fX2_readStuff_42 (fX2_readStuff_99) ea_N (0 : Int32) M7))))) else (ea_ci (fX2_refuse (4 : Int32) M) (fun r10 M11 => ea_ck (ea_01 r10) (some (r10, M11)))))
def fX2_readStuff (M : eM) : Option (Int32 × eM) := fX2_readStuff_0 M
section SX2_readStuff
variable {p : Program} {l : Launch} {e : Env} {s : State} {m : MethodId} {args : Array Value} {below : List Frame} {meth : Method} {cd : Code} {E : eE} {ids : List Nat} {res : Int32 × eM}
set_option maxHeartbeats 4000000 in
set_option maxRecDepth 20000 in
theorem wX2_readStuff_42 (C : ea_C p s m args meth cd cX2_readStuff 2 (some .boolean) RX2) (hX : ea_X ids) {k99 : eM → Option (Int32 × eM)} (hk99 : ∀  (M : eM) (H : Heap) (locs : List Loc) (ls : Array Slot), k99 M = some res → ea_w E ids M s H locs → lv_has ls 2 [(0, .ref (E.1 3))] → W p l e (ea_rm 3 65) s m args below meth cd H locs 0 0 (MQ below (ea_Qi E ids res) args s 0 0 (ea_Ad E ids)) (F0 m 99 ls [])) : ∀ (n : Nat) (x1 : Int32) (M : eM) (H : Heap) (locs : List Loc) (ls : Array Slot), fX2_readStuff_42 k99 n x1 M = some res → ea_w E ids M s H locs → lv_has ls 2 [(0, .ref (E.1 3)), (1, .int x1)] → W p l e (ea_rm 3 65) s m args below meth cd H locs 0 0 (MQ below (ea_Qi E ids res) args s 0 0 (ea_Ad E ids)) (F0 m 42 ls []) := by
  intro n
  induction n with
  | zero => intro x1 M H locs ls hf; cases hf
  | succ n ih =>
    intro x1 M H locs ls hf  hw hl
    replace hf := (fX2_readStuff_42.eq_2 ..).symm.trans hf
    refine lv_iload_n C.1 C.2.1 dX2_readStuff_42 rfl (lv_at hl 1 rfl) ?_
    refine va_gets C.1 C.2.1 hw.2.2.2.2.2.1.1 hw.2.2.2.1 C.2.2.2.1 (C.2.2.2.2.1 _ wf_RX2_176) (fun _ h => h) dX2_readStuff_43 ?_
    refine va_tlen C.1 C.2.1 hw.2.2.2.2.2.1.2 hw.2.2.2.1 (v := (6 : Int32)) rfl dX2_readStuff_46 ?_
    refine lv_icmp_ge (tgt := 99) C.1 C.2.1 dX2_readStuff_47 (by decide) (fun hc1 => ?_) (fun hc1 => ?_)
    · replace hf := ea_if_t hc1 hf
      exact hk99 _ _ _ _ hf hw (lv_sub hl [0] rfl)
    · replace hf := ea_if_f hc1 hf
      refine lv_aload_n C.1 C.2.1 dX2_readStuff_50 rfl (lv_at hl 0 rfl) ?_
      refine va_gets C.1 C.2.1 hw.2.2.2.2.2.1.1 hw.2.2.2.1 C.2.2.2.1 (C.2.2.2.2.1 _ wf_RX2_176) (fun _ h => h) dX2_readStuff_51 ?_
      refine lv_iload_n C.1 C.2.1 dX2_readStuff_54 rfl (lv_at hl 1 rfl) ?_
      obtain ⟨hc2, hf⟩ := ea_ck_s hf
      refine va_ti C.1 C.2.1 hw.2.2.2.2.2.1.2 hw.2.2.2.1 (ea_ix_in hc2) (v := .int ((ea_ta.getD 0 []).getD x1.toNatClampNeg 0)) rfl dX2_readStuff_55 ?_
      refine va_gets C.1 C.2.1 hw.2.2.2.2.2.2.1.1 hw.2.2.2.1 C.2.2.2.1 (C.2.2.2.2.1 _ wf_RX2_179) (fun _ h => h) dX2_readStuff_56 ?_
      refine lv_iload_n C.1 C.2.1 dX2_readStuff_59 rfl (lv_at hl 1 rfl) ?_
      obtain ⟨hc3, hf⟩ := ea_ck_s hf
      refine va_ti C.1 C.2.1 hw.2.2.2.2.2.2.1.2 hw.2.2.2.1 (ea_ix_in hc3) (v := .int ((ea_ta.getD 1 []).getD x1.toNatClampNeg 0)) rfl dX2_readStuff_60 ?_
      obtain ⟨r5, M6, he4, hf⟩ := ea_ci_s hf
      refine ea_runi2 hw (cl_X2_145 C hw (hX 3 2 rfl) (As := [.int ((ea_ta.getD 0 []).getD x1.toNatClampNeg 0), .int ((ea_ta.getD 1 []).getD x1.toNatClampNeg 0)]) (rest := []) (mX2_readNumber (l := l) (E := E) (ids := ids) hX he4) (by decide) rfl hl.1 rfl (Nat.le_of_ble_eq_true rfl) dX2_readStuff_61 ⟨Nat.le_refl _, Nat.le_refl _⟩) (fun H locs hw => ?_)
      refine lv_if_ne (tgt := 69) C.1 C.2.1 dX2_readStuff_64 (by decide) (fun hc7 => ?_) (fun hc7 => ?_)
      · replace hf := ea_if_f hc7 hf
        refine lv_aload_n C.1 C.2.1 dX2_readStuff_69 rfl (lv_at hl 0 rfl) ?_
        refine gf_X2_22 C hw (hX 3 2 rfl) dX2_readStuff_70 ?_
        obtain ⟨hc8, hf⟩ := ea_ck_s hf
        refine gf_X2_182 C hw (ea_dyn hX hc8) dX2_readStuff_73 ?_
        refine lv_aload_n C.1 C.2.1 dX2_readStuff_76 rfl (lv_at hl 0 rfl) ?_
        refine gf_X2_22 C hw (hX 3 2 rfl) dX2_readStuff_77 ?_
        obtain ⟨hc9, hf⟩ := ea_ck_s hf
        refine gf_X2_165 C hw (ea_dyn hX hc9) dX2_readStuff_80 ?_
        refine lv_bipush (v := 6) C.1 C.2.1 dX2_readStuff_83 (by decide) ?_
        refine lv_imul C.1 C.2.1 dX2_readStuff_85 ?_
        refine lv_iload_n C.1 C.2.1 dX2_readStuff_86 rfl (lv_at hl 1 rfl) ?_
        refine lv_iadd C.1 C.2.1 dX2_readStuff_87 ?_
        refine lv_aload_n C.1 C.2.1 dX2_readStuff_88 rfl (lv_at hl 0 rfl) ?_
        refine gf_X2_71 C hw (hX 3 2 rfl) dX2_readStuff_89 ?_
        obtain ⟨hc10, hf⟩ := ea_ck_s hf
        refine ea_iast C hw (ok_1_10 (ea_dyn hX hc8)) hc10 dX2_readStuff_92 (fun H locs hw => ?_)
        refine lv_iinc (v := x1 + (1 : Int32)) (lv' := [(1, .int (x1 + (1 : Int32))), (0, .ref (E.1 3))]) C.1 C.2.1 dX2_readStuff_93 hl (k := 1) rfl rfl (by decide) rfl (fun ls hl => ?_)
        refine lv_goto (tgt := 42) C.1 C.2.1 dX2_readStuff_96 (by decide) ?_
        exact ih _ _ _ _ _ hf hw (lv_sub hl [1, 0] rfl)
      · replace hf := ea_if_t hc7 hf
        refine lv_iconst (v := 0) C.1 C.2.1 dX2_readStuff_67 (by decide) ?_
        exact ea_zret C hw (by decide) hf dX2_readStuff_68
set_option maxHeartbeats 4000000 in
set_option maxRecDepth 20000 in
theorem wX2_readStuff_99 (C : ea_C p s m args meth cd cX2_readStuff 2 (some .boolean) RX2) (hX : ea_X ids) : ∀  (M : eM) (H : Heap) (locs : List Loc) (ls : Array Slot), fX2_readStuff_99 M = some res → ea_w E ids M s H locs → lv_has ls 2 [(0, .ref (E.1 3))] → W p l e (ea_rm 3 65) s m args below meth cd H locs 0 0 (MQ below (ea_Qi E ids res) args s 0 0 (ea_Ad E ids)) (F0 m 99 ls []) := by
  intro M H locs ls hf  hw hl
  replace hf := (fX2_readStuff_99.eq_1 ..).symm.trans hf
  refine lv_aload_n C.1 C.2.1 dX2_readStuff_99 rfl (lv_at hl 0 rfl) ?_
  refine gf_X2_22 C hw (hX 3 2 rfl) dX2_readStuff_100 ?_
  obtain ⟨hc1, hf⟩ := ea_ck_s hf
  refine lv_dup C.1 C.2.1 dX2_readStuff_103 rfl ?_
  refine gf_X2_165 C hw (ea_dyn hX hc1) dX2_readStuff_104 ?_
  refine lv_iconst (v := 1) C.1 C.2.1 dX2_readStuff_107 (by decide) ?_
  refine lv_iadd C.1 C.2.1 dX2_readStuff_108 ?_
  refine pu_X2_165 C hw (ea_dyn hX hc1) dX2_readStuff_109 (fun H locs hw => ?_)
  refine lv_iconst (v := 1) C.1 C.2.1 dX2_readStuff_112 (by decide) ?_
  exact ea_zret C hw (by decide) hf dX2_readStuff_113
set_option maxHeartbeats 4000000 in
set_option maxRecDepth 20000 in
theorem wX2_readStuff_0 (C : ea_C p s m args meth cd cX2_readStuff 2 (some .boolean) RX2) (hX : ea_X ids) : ∀  (M : eM) (H : Heap) (locs : List Loc) (ls : Array Slot), fX2_readStuff_0 M = some res → ea_w E ids M s H locs → lv_has ls 2 [(0, .ref (E.1 3))] → W p l e (ea_rm 3 65) s m args below meth cd H locs 0 0 (MQ below (ea_Qi E ids res) args s 0 0 (ea_Ad E ids)) (F0 m 0 ls []) := by
  intro M H locs ls hf  hw hl
  replace hf := (fX2_readStuff_0.eq_1 ..).symm.trans hf
  refine lv_aload_n C.1 C.2.1 dX2_readStuff_0 rfl (lv_at hl 0 rfl) ?_
  refine gf_X2_22 C hw (hX 3 2 rfl) dX2_readStuff_1 ?_
  obtain ⟨hc1, hf⟩ := ea_ck_s hf
  refine gf_X2_165 C hw (ea_dyn hX hc1) dX2_readStuff_4 ?_
  refine lv_iconst (v := 5) C.1 C.2.1 dX2_readStuff_7 (by decide) ?_
  refine lv_icmp_lt (tgt := 17) C.1 C.2.1 dX2_readStuff_8 (by decide) (fun hc2 => ?_) (fun hc2 => ?_)
  · replace hf := ea_if_t hc2 hf
    refine lv_aload_n C.1 C.2.1 dX2_readStuff_17 rfl (lv_at hl 0 rfl) ?_
    refine lv_aload_n C.1 C.2.1 dX2_readStuff_18 rfl (lv_at hl 0 rfl) ?_
    refine gf_X2_22 C hw (hX 3 2 rfl) dX2_readStuff_19 ?_
    obtain ⟨hc3, hf⟩ := ea_ck_s hf
    refine gf_X2_168 C hw (ea_dyn hX hc3) dX2_readStuff_22 ?_
    refine lv_aload_n C.1 C.2.1 dX2_readStuff_25 rfl (lv_at hl 0 rfl) ?_
    refine gf_X2_22 C hw (hX 3 2 rfl) dX2_readStuff_26 ?_
    obtain ⟨hc4, hf⟩ := ea_ck_s hf
    refine gf_X2_165 C hw (ea_dyn hX hc4) dX2_readStuff_29 ?_
    obtain ⟨r6, M7, he5, hf⟩ := ea_ci_s hf
    refine ea_runi2 hw (cl_X2_172 C hw (hX 3 2 rfl) (As := [.ref (E.1 (M.2.2 3 3 + 3)), .int (M.1 (M.2.2 3 3) 8)]) (rest := []) (mX2_readName (l := l) (E := E) (ids := ids) hX (ok_1_9 (ea_dyn hX hc3)) he5) (by decide) rfl hl.1 rfl (Nat.le_of_ble_eq_true rfl) dX2_readStuff_32 ⟨Nat.le_refl _, Nat.le_refl _⟩) (fun H locs hw => ?_)
    refine lv_if_ne (tgt := 40) C.1 C.2.1 dX2_readStuff_35 (by decide) (fun hc8 => ?_) (fun hc8 => ?_)
    · replace hf := ea_if_f hc8 hf
      refine lv_iconst (v := 0) C.1 C.2.1 dX2_readStuff_40 (by decide) ?_
      refine lv_istore_n (lv' := [(1, .int (0 : Int32)), (0, .ref (E.1 3))]) C.1 C.2.1 dX2_readStuff_41 rfl hl (by decide) rfl (fun ls hl => ?_)
      exact wX2_readStuff_42 C hX (wX2_readStuff_99 C hX) ea_N _ _ _ _ _ hf hw (lv_sub hl [1, 0] rfl)
    · replace hf := ea_if_t hc8 hf
      refine lv_iconst (v := 0) C.1 C.2.1 dX2_readStuff_38 (by decide) ?_
      exact ea_zret C hw (by decide) hf dX2_readStuff_39
  · replace hf := ea_if_f hc2 hf
    refine lv_aload_n C.1 C.2.1 dX2_readStuff_11 rfl (lv_at hl 0 rfl) ?_
    refine lv_iconst (v := 4) C.1 C.2.1 dX2_readStuff_12 (by decide) ?_
    obtain ⟨r10, M11, he9, hf⟩ := ea_ci_s hf
    refine ea_runi2 hw (cl_X2_138 C hw (hX 3 2 rfl) (As := [.int (4 : Int32)]) (rest := []) (mX2_refuse (l := l) (E := E) (ids := ids) hX he9) (by decide) rfl hl.1 rfl (Nat.le_of_ble_eq_true rfl) dX2_readStuff_13 ⟨Nat.le_refl _, Nat.le_refl _⟩) (fun H locs hw => ?_)
    obtain ⟨hc12, hf⟩ := ea_ck_s hf
    exact ea_zret C hw (ea_01_s hc12) hf dX2_readStuff_16
set_option maxHeartbeats 4000000 in
set_option maxRecDepth 20000 in
theorem mX2_readStuff {l : Launch} {E : eE} {ids : List Nat} (hX : ea_X ids) {M : eM} {res : Int32 × eM} (hf : fX2_readStuff M = some res) : ea_Mi l yX2_readStuff cX2_readStuff 2 (some .boolean) 3 65 E ids [.ref (E.1 3)] M res := by
  refine ea_goi (by decide) (Nat.le_of_ble_eq_true rfl) wc_X2_readStuff ?_
  intro p e s m below meth cd ls C hw hl
  exact wX2_readStuff_0 C hX  _ _ _ _ hf hw hl
end SX2_readStuff

def fX2_readHang_14 : Nat → Int32 → Int32 → eM → Option (Int32 × eM)
  | 0, _, _, _ => none
  | n + 1, x2, x3, M => if (4 : Int32) ≤ x3 then (some ((1 : Int32), M)) else (ea_ck (ea_ix x3 4) (ea_ck (ea_ix x3 4) (ea_ci (fX2_readNumber ((ea_ta.getD 2 []).getD x3.toNatClampNeg 0) ((ea_ta.getD 3 []).getD x3.toNatClampNeg 0) M) (fun r5 M6 => if r5 = 0 then (some ((0 : Int32), M6)) else (ea_ck (ea_is (M6.2.2 3 3) 1) (ea_ck (ea_ix (x2 + x3) (ea_len (M6.2.2 3 3 + 7))) (fX2_readHang_14 n x2 (x3 + (1 : Int32)) (ea_pI M6 (M6.2.2 3 3 + 7) ((x2 + x3).toNatClampNeg) (M6.1 3 8)))))))))
def fX2_readHang_0 (x1 : Int32) (M : eM) : Option (Int32 × eM) := ea_ck (ea_is (M.2.2 3 3) 1) (ea_ci (fX1_hangPlace (M.1 (M.2.2 3 3) 11) x1 M) (fun r3 M4 => fX2_readHang_14 ea_N r3 (0 : Int32) M4))
def fX2_readHang (x1 : Int32) (M : eM) : Option (Int32 × eM) := fX2_readHang_0 x1 M
section SX2_readHang
variable {p : Program} {l : Launch} {e : Env} {s : State} {m : MethodId} {args : Array Value} {below : List Frame} {meth : Method} {cd : Code} {E : eE} {ids : List Nat} {res : Int32 × eM}
set_option maxHeartbeats 4000000 in
set_option maxRecDepth 20000 in
theorem wX2_readHang_14 (C : ea_C p s m args meth cd cX2_readHang 4 (some .boolean) RX2) (hX : ea_X ids) : ∀ (n : Nat) (x2 : Int32) (x3 : Int32) (M : eM) (H : Heap) (locs : List Loc) (ls : Array Slot), fX2_readHang_14 n x2 x3 M = some res → ea_w E ids M s H locs → lv_has ls 4 [(0, .ref (E.1 3)), (2, .int x2), (3, .int x3)] → W p l e (ea_rm 3 64) s m args below meth cd H locs 0 0 (MQ below (ea_Qi E ids res) args s 0 0 (ea_Ad E ids)) (F0 m 14 ls []) := by
  intro n
  induction n with
  | zero => intro x2 x3 M H locs ls hf; cases hf
  | succ n ih =>
    intro x2 x3 M H locs ls hf  hw hl
    replace hf := (fX2_readHang_14.eq_2 ..).symm.trans hf
    refine lv_iload_n C.1 C.2.1 dX2_readHang_14 rfl (lv_at hl 2 rfl) ?_
    refine va_gets C.1 C.2.1 hw.2.2.2.2.2.2.2.1.1 hw.2.2.2.1 C.2.2.2.1 (C.2.2.2.2.1 _ wf_RX2_214) (fun _ h => h) dX2_readHang_15 ?_
    refine va_tlen C.1 C.2.1 hw.2.2.2.2.2.2.2.1.2 hw.2.2.2.1 (v := (4 : Int32)) rfl dX2_readHang_18 ?_
    refine lv_icmp_ge (tgt := 62) C.1 C.2.1 dX2_readHang_19 (by decide) (fun hc1 => ?_) (fun hc1 => ?_)
    · replace hf := ea_if_t hc1 hf
      refine lv_iconst (v := 1) C.1 C.2.1 dX2_readHang_62 (by decide) ?_
      exact ea_zret C hw (by decide) hf dX2_readHang_63
    · replace hf := ea_if_f hc1 hf
      refine lv_aload_n C.1 C.2.1 dX2_readHang_22 rfl (lv_at hl 0 rfl) ?_
      refine va_gets C.1 C.2.1 hw.2.2.2.2.2.2.2.1.1 hw.2.2.2.1 C.2.2.2.1 (C.2.2.2.2.1 _ wf_RX2_214) (fun _ h => h) dX2_readHang_23 ?_
      refine lv_iload_n C.1 C.2.1 dX2_readHang_26 rfl (lv_at hl 2 rfl) ?_
      obtain ⟨hc2, hf⟩ := ea_ck_s hf
      refine va_ti C.1 C.2.1 hw.2.2.2.2.2.2.2.1.2 hw.2.2.2.1 (ea_ix_in hc2) (v := .int ((ea_ta.getD 2 []).getD x3.toNatClampNeg 0)) rfl dX2_readHang_27 ?_
      refine va_gets C.1 C.2.1 hw.2.2.2.2.2.2.2.2.1.1 hw.2.2.2.1 C.2.2.2.1 (C.2.2.2.2.1 _ wf_RX2_217) (fun _ h => h) dX2_readHang_28 ?_
      refine lv_iload_n C.1 C.2.1 dX2_readHang_31 rfl (lv_at hl 2 rfl) ?_
      obtain ⟨hc3, hf⟩ := ea_ck_s hf
      refine va_ti C.1 C.2.1 hw.2.2.2.2.2.2.2.2.1.2 hw.2.2.2.1 (ea_ix_in hc3) (v := .int ((ea_ta.getD 3 []).getD x3.toNatClampNeg 0)) rfl dX2_readHang_32 ?_
      obtain ⟨r5, M6, he4, hf⟩ := ea_ci_s hf
      refine ea_runi2 hw (cl_X2_145 C hw (hX 3 2 rfl) (As := [.int ((ea_ta.getD 2 []).getD x3.toNatClampNeg 0), .int ((ea_ta.getD 3 []).getD x3.toNatClampNeg 0)]) (rest := []) (mX2_readNumber (l := l) (E := E) (ids := ids) hX he4) (by decide) rfl hl.1 rfl (Nat.le_of_ble_eq_true rfl) dX2_readHang_33 ⟨Nat.le_refl _, Nat.le_refl _⟩) (fun H locs hw => ?_)
      refine lv_if_ne (tgt := 41) C.1 C.2.1 dX2_readHang_36 (by decide) (fun hc7 => ?_) (fun hc7 => ?_)
      · replace hf := ea_if_f hc7 hf
        refine lv_aload_n C.1 C.2.1 dX2_readHang_41 rfl (lv_at hl 0 rfl) ?_
        refine gf_X2_22 C hw (hX 3 2 rfl) dX2_readHang_42 ?_
        obtain ⟨hc8, hf⟩ := ea_ck_s hf
        refine gf_X2_220 C hw (ea_dyn hX hc8) dX2_readHang_45 ?_
        refine lv_iload_n C.1 C.2.1 dX2_readHang_48 rfl (lv_at hl 1 rfl) ?_
        refine lv_iload_n C.1 C.2.1 dX2_readHang_49 rfl (lv_at hl 2 rfl) ?_
        refine lv_iadd C.1 C.2.1 dX2_readHang_50 ?_
        refine lv_aload_n C.1 C.2.1 dX2_readHang_51 rfl (lv_at hl 0 rfl) ?_
        refine gf_X2_71 C hw (hX 3 2 rfl) dX2_readHang_52 ?_
        obtain ⟨hc9, hf⟩ := ea_ck_s hf
        refine ea_iast C hw (ok_1_14 (ea_dyn hX hc8)) hc9 dX2_readHang_55 (fun H locs hw => ?_)
        refine lv_iinc (v := x3 + (1 : Int32)) (lv' := [(3, .int (x3 + (1 : Int32))), (0, .ref (E.1 3)), (2, .int x2)]) C.1 C.2.1 dX2_readHang_56 hl (k := 2) rfl rfl (by decide) rfl (fun ls hl => ?_)
        refine lv_goto (tgt := 14) C.1 C.2.1 dX2_readHang_59 (by decide) ?_
        exact ih _ _ _ _ _ _ hf hw (lv_sub hl [1, 2, 0] rfl)
      · replace hf := ea_if_t hc7 hf
        refine lv_iconst (v := 0) C.1 C.2.1 dX2_readHang_39 (by decide) ?_
        exact ea_zret C hw (by decide) hf dX2_readHang_40
set_option maxHeartbeats 4000000 in
set_option maxRecDepth 20000 in
theorem wX2_readHang_0 (C : ea_C p s m args meth cd cX2_readHang 4 (some .boolean) RX2) (hX : ea_X ids) : ∀ (x1 : Int32) (M : eM) (H : Heap) (locs : List Loc) (ls : Array Slot), fX2_readHang_0 x1 M = some res → ea_w E ids M s H locs → lv_has ls 4 [(0, .ref (E.1 3)), (1, .int x1)] → W p l e (ea_rm 3 64) s m args below meth cd H locs 0 0 (MQ below (ea_Qi E ids res) args s 0 0 (ea_Ad E ids)) (F0 m 0 ls []) := by
  intro x1 M H locs ls hf  hw hl
  replace hf := (fX2_readHang_0.eq_1 ..).symm.trans hf
  refine lv_aload_n C.1 C.2.1 dX2_readHang_0 rfl (lv_at hl 0 rfl) ?_
  refine gf_X2_22 C hw (hX 3 2 rfl) dX2_readHang_1 ?_
  obtain ⟨hc1, hf⟩ := ea_ck_s hf
  refine gf_X2_196 C hw (ea_dyn hX hc1) dX2_readHang_4 ?_
  refine lv_iload_n C.1 C.2.1 dX2_readHang_7 rfl (lv_at hl 1 rfl) ?_
  obtain ⟨r3, M4, he2, hf⟩ := ea_ci_s hf
  refine ea_runi2 hw (cl_X2_210 C hw (As := [.int (M.1 (M.2.2 3 3) 11), .int x1]) (rest := []) (mX1_hangPlace (l := l) (E := E) (ids := ids) hX he2) (by decide) rfl hl.1 rfl (Nat.le_of_ble_eq_true rfl) dX2_readHang_8 ⟨Nat.le_refl _, Nat.le_refl _⟩) (fun H locs hw => ?_)
  refine lv_istore_n (lv' := [(2, .int r3), (0, .ref (E.1 3)), (1, .int x1)]) C.1 C.2.1 dX2_readHang_11 rfl hl (by decide) rfl (fun ls hl => ?_)
  refine lv_iconst (v := 0) C.1 C.2.1 dX2_readHang_12 (by decide) ?_
  refine lv_istore_n (lv' := [(3, .int (0 : Int32)), (2, .int r3), (0, .ref (E.1 3)), (1, .int x1)]) C.1 C.2.1 dX2_readHang_13 rfl hl (by decide) rfl (fun ls hl => ?_)
  exact wX2_readHang_14 C hX ea_N _ _ _ _ _ _ hf hw (lv_sub hl [2, 1, 0] rfl)
set_option maxHeartbeats 4000000 in
set_option maxRecDepth 20000 in
theorem mX2_readHang {l : Launch} {E : eE} {ids : List Nat} (hX : ea_X ids) {x1 : Int32} {M : eM} {res : Int32 × eM} (hf : fX2_readHang x1 M = some res) : ea_Mi l yX2_readHang cX2_readHang 4 (some .boolean) 3 64 E ids [.ref (E.1 3), .int x1] M res := by
  refine ea_goi (by decide) (Nat.le_of_ble_eq_true rfl) wc_X2_readHang ?_
  intro p e s m below meth cd ls C hw hl
  exact wX2_readHang_0 C hX _ _ _ _ _ hf hw hl
end SX2_readHang

def fX8_clear_0 (a0 : Nat) (M : eM) : Option (eM) := some (ea_pI (ea_pI (ea_pI (ea_pI M a0 3 (0 : Int32)) a0 4 (0 : Int32)) a0 5 (0 : Int32)) a0 6 (0 : Int32))
def fX8_clear (a0 : Nat) (M : eM) : Option (eM) := fX8_clear_0 a0 M
section SX8_clear
variable {p : Program} {l : Launch} {e : Env} {s : State} {m : MethodId} {args : Array Value} {below : List Frame} {meth : Method} {cd : Code} {E : eE} {ids : List Nat} {res : eM} {a0 : Nat}
set_option maxHeartbeats 4000000 in
set_option maxRecDepth 20000 in
theorem wX8_clear_0 (C : ea_C p s m args meth cd cX8_clear 1 none RX8) (hX : ea_X ids) (ho0 : ea_ok ids a0 8) : ∀  (M : eM) (H : Heap) (locs : List Loc) (ls : Array Slot), fX8_clear_0 a0 M = some res → ea_w E ids M s H locs → lv_has ls 1 [(0, .ref (E.1 a0))] → W p l e (ea_rm 0 0) s m args below meth cd H locs 0 0 (MQ below (ea_Qv E ids res) args s 0 0 (ea_Ad E ids)) (F0 m 0 ls []) := by
  intro M H locs ls hf  hw hl
  replace hf := (fX8_clear_0.eq_1 ..).symm.trans hf
  refine lv_aload_n C.1 C.2.1 dX8_clear_0 rfl (lv_at hl 0 rfl) ?_
  refine lv_iconst (v := 0) C.1 C.2.1 dX8_clear_1 (by decide) ?_
  refine pu_X8_21 C hw ho0 dX8_clear_2 (fun H locs hw => ?_)
  refine lv_aload_n C.1 C.2.1 dX8_clear_5 rfl (lv_at hl 0 rfl) ?_
  refine lv_iconst (v := 0) C.1 C.2.1 dX8_clear_6 (by decide) ?_
  refine pu_X8_25 C hw ho0 dX8_clear_7 (fun H locs hw => ?_)
  refine lv_aload_n C.1 C.2.1 dX8_clear_10 rfl (lv_at hl 0 rfl) ?_
  refine lv_iconst (v := 0) C.1 C.2.1 dX8_clear_11 (by decide) ?_
  refine pu_X8_28 C hw ho0 dX8_clear_12 (fun H locs hw => ?_)
  refine lv_aload_n C.1 C.2.1 dX8_clear_15 rfl (lv_at hl 0 rfl) ?_
  refine lv_iconst (v := 0) C.1 C.2.1 dX8_clear_16 (by decide) ?_
  refine pu_X8_31 C hw ho0 dX8_clear_17 (fun H locs hw => ?_)
  exact ea_vret C hw hf dX8_clear_20
set_option maxHeartbeats 4000000 in
set_option maxRecDepth 20000 in
theorem mX8_clear {l : Launch} {E : eE} {ids : List Nat} (hX : ea_X ids) {a0 : Nat} (ho0 : ea_ok ids a0 8) {M : eM} {res : eM} (hf : fX8_clear a0 M = some res) : ea_Mv l yX8_clear cX8_clear 1 0 0 E ids [.ref (E.1 a0)] M res := by
  refine ea_gov (by decide) (Nat.le_of_ble_eq_true rfl) wc_X8_clear ?_
  intro p e s m below meth cd ls C hw hl
  exact wX8_clear_0 C hX ho0  _ _ _ _ hf hw hl
end SX8_clear

def fX9_add_0 (x1 : Int32) (x2 : Int32) (M : eM) : Option (eM) := if (855 : Int32) ≤ (M.1 4 1) then (some M) else (ea_ck (ea_ix (M.1 4 1) (ea_len 5)) (ea_ck (ea_ix ((ea_pI M 5 ((M.1 4 1).toNatClampNeg) x1).1 4 1) (ea_len 6)) (some (ea_pI (ea_pI (ea_pI M 5 ((M.1 4 1).toNatClampNeg) x1) 6 (((ea_pI M 5 ((M.1 4 1).toNatClampNeg) x1).1 4 1).toNatClampNeg) x2) 4 1 (((ea_pI (ea_pI M 5 ((M.1 4 1).toNatClampNeg) x1) 6 (((ea_pI M 5 ((M.1 4 1).toNatClampNeg) x1).1 4 1).toNatClampNeg) x2).1 4 1) + (1 : Int32))))))
def fX9_add (x1 : Int32) (x2 : Int32) (M : eM) : Option (eM) := fX9_add_0 x1 x2 M
section SX9_add
variable {p : Program} {l : Launch} {e : Env} {s : State} {m : MethodId} {args : Array Value} {below : List Frame} {meth : Method} {cd : Code} {E : eE} {ids : List Nat} {res : eM}
set_option maxHeartbeats 4000000 in
set_option maxRecDepth 20000 in
theorem wX9_add_0 (C : ea_C p s m args meth cd cX9_add 3 none RX9) (hX : ea_X ids) : ∀ (x1 : Int32) (x2 : Int32) (M : eM) (H : Heap) (locs : List Loc) (ls : Array Slot), fX9_add_0 x1 x2 M = some res → ea_w E ids M s H locs → lv_has ls 3 [(0, .ref (E.1 4)), (1, .int x1), (2, .int x2)] → W p l e (ea_rm 0 0) s m args below meth cd H locs 0 0 (MQ below (ea_Qv E ids res) args s 0 0 (ea_Ad E ids)) (F0 m 0 ls []) := by
  intro x1 x2 M H locs ls hf  hw hl
  replace hf := (fX9_add_0.eq_1 ..).symm.trans hf
  refine lv_aload_n C.1 C.2.1 dX9_add_0 rfl (lv_at hl 0 rfl) ?_
  refine gf_X9_22 C hw (hX 4 9 rfl) dX9_add_1 ?_
  refine lv_sipush (v := 855) C.1 C.2.1 dX9_add_4 (by decide) ?_
  refine lv_icmp_ge (tgt := 40) C.1 C.2.1 dX9_add_7 (by decide) (fun hc1 => ?_) (fun hc1 => ?_)
  · replace hf := ea_if_t hc1 hf
    exact ea_vret C hw hf dX9_add_40
  · replace hf := ea_if_f hc1 hf
    refine lv_aload_n C.1 C.2.1 dX9_add_10 rfl (lv_at hl 0 rfl) ?_
    refine gf_X9_11 C hw (hX 4 9 rfl) dX9_add_11 ?_
    refine W.eq (g2 := F0 m 14 ls [.ref (E.1 5)]) rfl ?_
    refine lv_aload_n C.1 C.2.1 dX9_add_14 rfl (lv_at hl 0 rfl) ?_
    refine gf_X9_22 C hw (hX 4 9 rfl) dX9_add_15 ?_
    refine lv_iload_n C.1 C.2.1 dX9_add_18 rfl (lv_at hl 1 rfl) ?_
    obtain ⟨hc2, hf⟩ := ea_ck_s hf
    refine ea_iast C hw (show ea_ok ids 5 20 from ok_9_2 (hX 4 9 rfl)) hc2 dX9_add_19 (fun H locs hw => ?_)
    refine lv_aload_n C.1 C.2.1 dX9_add_20 rfl (lv_at hl 0 rfl) ?_
    refine gf_X9_15 C hw (hX 4 9 rfl) dX9_add_21 ?_
    refine W.eq (g2 := F0 m 24 ls [.ref (E.1 6)]) rfl ?_
    refine lv_aload_n C.1 C.2.1 dX9_add_24 rfl (lv_at hl 0 rfl) ?_
    refine gf_X9_22 C hw (hX 4 9 rfl) dX9_add_25 ?_
    refine lv_iload_n C.1 C.2.1 dX9_add_28 rfl (lv_at hl 2 rfl) ?_
    obtain ⟨hc3, hf⟩ := ea_ck_s hf
    refine ea_iast C hw (show ea_ok ids 6 20 from ok_9_3 (hX 4 9 rfl)) hc3 dX9_add_29 (fun H locs hw => ?_)
    refine lv_aload_n C.1 C.2.1 dX9_add_30 rfl (lv_at hl 0 rfl) ?_
    refine lv_dup C.1 C.2.1 dX9_add_31 rfl ?_
    refine gf_X9_22 C hw (hX 4 9 rfl) dX9_add_32 ?_
    refine lv_iconst (v := 1) C.1 C.2.1 dX9_add_35 (by decide) ?_
    refine lv_iadd C.1 C.2.1 dX9_add_36 ?_
    refine pu_X9_22 C hw (hX 4 9 rfl) dX9_add_37 (fun H locs hw => ?_)
    exact ea_vret C hw hf dX9_add_40
set_option maxHeartbeats 4000000 in
set_option maxRecDepth 20000 in
theorem mX9_add {l : Launch} {E : eE} {ids : List Nat} (hX : ea_X ids) {x1 : Int32} {x2 : Int32} {M : eM} {res : eM} (hf : fX9_add x1 x2 M = some res) : ea_Mv l yX9_add cX9_add 3 0 0 E ids [.ref (E.1 4), .int x1, .int x2] M res := by
  refine ea_gov (by decide) (Nat.le_of_ble_eq_true rfl) wc_X9_add ?_
  intro p e s m below meth cd ls C hw hl
  exact wX9_add_0 C hX _ _ _ _ _ _ hf hw hl
end SX9_add

def fX9_spin_20 (k38 : Int32 → eM → Option (eM)) (a1 : Nat) : Nat → Int32 → Int32 → eM → Option (eM)
  | 0, _, _, _ => none
  | n + 1, x2, x3, M => if x2 ≤ x3 then (k38 x2 M) else (ea_cv (fX9_add x3 (45 : Int32) M) (fun M3 => fX9_spin_20 k38 a1 n x2 (x3 + (1 : Int32)) M3))
def fX9_spin_65 (k84 : Int32 → Int32 → eM → Option (eM)) (a1 : Nat) : Nat → Int32 → Int32 → Int32 → eM → Option (eM)
  | 0, _, _, _, _ => none
  | n + 1, x2, x3, x4, M => if x2 ≤ x4 then (k84 x2 x3 M) else (ea_cv (fX9_add x3 x4 M) (fun M3 => fX9_spin_65 k84 a1 n x2 x3 (x4 + (1 : Int32)) M3))
def fX9_spin_84 (k49 : Int32 → Int32 → eM → Option (eM)) (a1 : Nat) (x2 : Int32) (x3 : Int32) (M : eM) : Option (eM) := k49 x2 (x3 + (1 : Int32)) M
def fX9_spin_49 (a1 : Nat) : Nat → Int32 → Int32 → eM → Option (eM)
  | 0, _, _, _ => none
  | n + 1, x2, x3, M => if x2 ≤ x3 then (some M) else (ea_lt (((x3 / (9 : Int32)) + (1 : Int32)) * (9 : Int32)) (fun y2 => fX9_spin_65 (fX9_spin_84 (fX9_spin_49 a1 n) a1) a1 ea_N x2 x3 y2 M))
def fX9_spin_38 (a1 : Nat) (x2 : Int32) (M : eM) : Option (eM) := if (2 : Int32) ≤ (M.1 a1 3) then (fX9_spin_49 a1 ea_N x2 (0 : Int32) M) else (some M)
def fX9_spin_0 (a1 : Nat) (M : eM) : Option (eM) := ea_lt (((ea_pI (ea_pR M 4 0 a1) 4 1 (0 : Int32)).1 a1 8) * (9 : Int32)) (fun y1 => fX9_spin_20 (fX9_spin_38 a1) a1 ea_N y1 (0 : Int32) (ea_pI (ea_pR M 4 0 a1) 4 1 (0 : Int32)))
def fX9_spin (a1 : Nat) (M : eM) : Option (eM) := fX9_spin_0 a1 M
section SX9_spin
variable {p : Program} {l : Launch} {e : Env} {s : State} {m : MethodId} {args : Array Value} {below : List Frame} {meth : Method} {cd : Code} {E : eE} {ids : List Nat} {res : eM} {a1 : Nat}
set_option maxHeartbeats 4000000 in
set_option maxRecDepth 20000 in
theorem wX9_spin_20 (C : ea_C p s m args meth cd cX9_spin 5 none RX9) (hX : ea_X ids) (ho1 : ea_ok ids a1 1) {k38 : Int32 → eM → Option (eM)} (hk38 : ∀ (x2 : Int32) (M : eM) (H : Heap) (locs : List Loc) (ls : Array Slot), k38 x2 M = some res → ea_w E ids M s H locs → lv_has ls 5 [(0, .ref (E.1 4)), (1, .ref (E.1 a1)), (2, .int x2)] → W p l e (ea_rm 1 22) s m args below meth cd H locs 0 0 (MQ below (ea_Qv E ids res) args s 0 0 (ea_Ad E ids)) (F0 m 38 ls [])) : ∀ (n : Nat) (x2 : Int32) (x3 : Int32) (M : eM) (H : Heap) (locs : List Loc) (ls : Array Slot), fX9_spin_20 k38 a1 n x2 x3 M = some res → ea_w E ids M s H locs → lv_has ls 5 [(0, .ref (E.1 4)), (1, .ref (E.1 a1)), (2, .int x2), (3, .int x3)] → W p l e (ea_rm 1 22) s m args below meth cd H locs 0 0 (MQ below (ea_Qv E ids res) args s 0 0 (ea_Ad E ids)) (F0 m 20 ls []) := by
  intro n
  induction n with
  | zero => intro x2 x3 M H locs ls hf; cases hf
  | succ n ih =>
    intro x2 x3 M H locs ls hf  hw hl
    replace hf := (fX9_spin_20.eq_2 ..).symm.trans hf
    refine lv_iload_n C.1 C.2.1 dX9_spin_20 rfl (lv_at hl 3 rfl) ?_
    refine lv_iload_n C.1 C.2.1 dX9_spin_21 rfl (lv_at hl 2 rfl) ?_
    refine lv_icmp_ge (tgt := 38) C.1 C.2.1 dX9_spin_22 (by decide) (fun hc1 => ?_) (fun hc1 => ?_)
    · replace hf := ea_if_t hc1 hf
      exact hk38 _ _ _ _ _ hf hw (lv_sub hl [0, 1, 2] rfl)
    · replace hf := ea_if_f hc1 hf
      refine lv_aload_n C.1 C.2.1 dX9_spin_25 rfl (lv_at hl 0 rfl) ?_
      refine lv_iload_n C.1 C.2.1 dX9_spin_26 rfl (lv_at hl 3 rfl) ?_
      refine lv_bipush (v := 45) C.1 C.2.1 dX9_spin_27 (by decide) ?_
      obtain ⟨M3, he2, hf⟩ := ea_cv_s hf
      refine ea_runv hw (cl_X9_31 C hw (hX 4 9 rfl) (As := [.int x3, .int (45 : Int32)]) (rest := []) (mX9_add (l := l) (E := E) (ids := ids) hX he2) (by decide) rfl hl.1 rfl (Nat.le_of_ble_eq_true rfl) dX9_spin_29 ⟨Nat.le_refl _, Nat.le_refl _⟩) (fun H locs hw => ?_)
      refine lv_iinc (v := x3 + (1 : Int32)) (lv' := [(3, .int (x3 + (1 : Int32))), (0, .ref (E.1 4)), (1, .ref (E.1 a1)), (2, .int x2)]) C.1 C.2.1 dX9_spin_32 hl (k := 3) rfl rfl (by decide) rfl (fun ls hl => ?_)
      refine lv_goto (tgt := 20) C.1 C.2.1 dX9_spin_35 (by decide) ?_
      exact ih _ _ _ _ _ _ hf hw (lv_sub hl [1, 2, 3, 0] rfl)
set_option maxHeartbeats 4000000 in
set_option maxRecDepth 20000 in
theorem wX9_spin_65 (C : ea_C p s m args meth cd cX9_spin 5 none RX9) (hX : ea_X ids) (ho1 : ea_ok ids a1 1) {k84 : Int32 → Int32 → eM → Option (eM)} (hk84 : ∀ (x2 : Int32) (x3 : Int32) (M : eM) (H : Heap) (locs : List Loc) (ls : Array Slot), k84 x2 x3 M = some res → ea_w E ids M s H locs → lv_has ls 5 [(0, .ref (E.1 4)), (2, .int x2), (3, .int x3)] → W p l e (ea_rm 1 22) s m args below meth cd H locs 0 0 (MQ below (ea_Qv E ids res) args s 0 0 (ea_Ad E ids)) (F0 m 84 ls [])) : ∀ (n : Nat) (x2 : Int32) (x3 : Int32) (x4 : Int32) (M : eM) (H : Heap) (locs : List Loc) (ls : Array Slot), fX9_spin_65 k84 a1 n x2 x3 x4 M = some res → ea_w E ids M s H locs → lv_has ls 5 [(0, .ref (E.1 4)), (2, .int x2), (3, .int x3), (4, .int x4)] → W p l e (ea_rm 1 22) s m args below meth cd H locs 0 0 (MQ below (ea_Qv E ids res) args s 0 0 (ea_Ad E ids)) (F0 m 65 ls []) := by
  intro n
  induction n with
  | zero => intro x2 x3 x4 M H locs ls hf; cases hf
  | succ n ih =>
    intro x2 x3 x4 M H locs ls hf  hw hl
    replace hf := (fX9_spin_65.eq_2 ..).symm.trans hf
    refine lv_iload C.1 C.2.1 dX9_spin_65 (lv_at hl 3 rfl) ?_
    refine lv_iload_n C.1 C.2.1 dX9_spin_67 rfl (lv_at hl 1 rfl) ?_
    refine lv_icmp_ge (tgt := 84) C.1 C.2.1 dX9_spin_68 (by decide) (fun hc1 => ?_) (fun hc1 => ?_)
    · replace hf := ea_if_t hc1 hf
      exact hk84 _ _ _ _ _ _ hf hw (lv_sub hl [0, 1, 2] rfl)
    · replace hf := ea_if_f hc1 hf
      refine lv_aload_n C.1 C.2.1 dX9_spin_71 rfl (lv_at hl 0 rfl) ?_
      refine lv_iload_n C.1 C.2.1 dX9_spin_72 rfl (lv_at hl 2 rfl) ?_
      refine lv_iload C.1 C.2.1 dX9_spin_73 (lv_at hl 3 rfl) ?_
      obtain ⟨M3, he2, hf⟩ := ea_cv_s hf
      refine ea_runv hw (cl_X9_31 C hw (hX 4 9 rfl) (As := [.int x3, .int x4]) (rest := []) (mX9_add (l := l) (E := E) (ids := ids) hX he2) (by decide) rfl hl.1 rfl (Nat.le_of_ble_eq_true rfl) dX9_spin_75 ⟨Nat.le_refl _, Nat.le_refl _⟩) (fun H locs hw => ?_)
      refine lv_iinc (v := x4 + (1 : Int32)) (lv' := [(4, .int (x4 + (1 : Int32))), (0, .ref (E.1 4)), (2, .int x2), (3, .int x3)]) C.1 C.2.1 dX9_spin_78 hl (k := 3) rfl rfl (by decide) rfl (fun ls hl => ?_)
      refine lv_goto (tgt := 65) C.1 C.2.1 dX9_spin_81 (by decide) ?_
      exact ih _ _ _ _ _ _ _ hf hw (lv_sub hl [1, 2, 3, 0] rfl)
set_option maxHeartbeats 4000000 in
set_option maxRecDepth 20000 in
theorem wX9_spin_84 (C : ea_C p s m args meth cd cX9_spin 5 none RX9) (hX : ea_X ids) (ho1 : ea_ok ids a1 1) {k49 : Int32 → Int32 → eM → Option (eM)} (hk49 : ∀ (x2 : Int32) (x3 : Int32) (M : eM) (H : Heap) (locs : List Loc) (ls : Array Slot), k49 x2 x3 M = some res → ea_w E ids M s H locs → lv_has ls 5 [(0, .ref (E.1 4)), (2, .int x2), (3, .int x3)] → W p l e (ea_rm 1 22) s m args below meth cd H locs 0 0 (MQ below (ea_Qv E ids res) args s 0 0 (ea_Ad E ids)) (F0 m 49 ls [])) : ∀ (x2 : Int32) (x3 : Int32) (M : eM) (H : Heap) (locs : List Loc) (ls : Array Slot), fX9_spin_84 k49 a1 x2 x3 M = some res → ea_w E ids M s H locs → lv_has ls 5 [(0, .ref (E.1 4)), (2, .int x2), (3, .int x3)] → W p l e (ea_rm 1 22) s m args below meth cd H locs 0 0 (MQ below (ea_Qv E ids res) args s 0 0 (ea_Ad E ids)) (F0 m 84 ls []) := by
  intro x2 x3 M H locs ls hf  hw hl
  replace hf := (fX9_spin_84.eq_1 ..).symm.trans hf
  refine lv_iinc (v := x3 + (1 : Int32)) (lv' := [(3, .int (x3 + (1 : Int32))), (0, .ref (E.1 4)), (2, .int x2)]) C.1 C.2.1 dX9_spin_84 hl (k := 2) rfl rfl (by decide) rfl (fun ls hl => ?_)
  refine lv_goto (tgt := 49) C.1 C.2.1 dX9_spin_87 (by decide) ?_
  exact hk49 _ _ _ _ _ _ hf hw (lv_sub hl [1, 2, 0] rfl)
set_option maxHeartbeats 4000000 in
set_option maxRecDepth 20000 in
theorem wX9_spin_49 (C : ea_C p s m args meth cd cX9_spin 5 none RX9) (hX : ea_X ids) (ho1 : ea_ok ids a1 1) : ∀ (n : Nat) (x2 : Int32) (x3 : Int32) (M : eM) (H : Heap) (locs : List Loc) (ls : Array Slot), fX9_spin_49 a1 n x2 x3 M = some res → ea_w E ids M s H locs → lv_has ls 5 [(0, .ref (E.1 4)), (2, .int x2), (3, .int x3)] → W p l e (ea_rm 1 22) s m args below meth cd H locs 0 0 (MQ below (ea_Qv E ids res) args s 0 0 (ea_Ad E ids)) (F0 m 49 ls []) := by
  intro n
  induction n with
  | zero => intro x2 x3 M H locs ls hf; cases hf
  | succ n ih =>
    intro x2 x3 M H locs ls hf  hw hl
    replace hf := (fX9_spin_49.eq_2 ..).symm.trans hf
    refine lv_iload_n C.1 C.2.1 dX9_spin_49 rfl (lv_at hl 2 rfl) ?_
    refine lv_iload_n C.1 C.2.1 dX9_spin_50 rfl (lv_at hl 1 rfl) ?_
    refine lv_icmp_ge (tgt := 90) C.1 C.2.1 dX9_spin_51 (by decide) (fun hc1 => ?_) (fun hc1 => ?_)
    · replace hf := ea_if_t hc1 hf
      exact ea_vret C hw hf dX9_spin_90
    · replace hf := ea_if_f hc1 hf
      refine lv_iload_n C.1 C.2.1 dX9_spin_54 rfl (lv_at hl 2 rfl) ?_
      refine lv_bipush (v := 9) C.1 C.2.1 dX9_spin_55 (by decide) ?_
      refine lv_idiv C.1 C.2.1 dX9_spin_57 (by decide) ?_
      refine lv_iconst (v := 1) C.1 C.2.1 dX9_spin_58 (by decide) ?_
      refine lv_iadd C.1 C.2.1 dX9_spin_59 ?_
      refine lv_bipush (v := 9) C.1 C.2.1 dX9_spin_60 (by decide) ?_
      refine lv_imul C.1 C.2.1 dX9_spin_62 ?_
      obtain ⟨y2, ey3, hf⟩ := ea_lt_s hf
      refine ea_topi ey3 ?_
      refine lv_istore (lv' := [(4, .int y2), (0, .ref (E.1 4)), (2, .int x2), (3, .int x3)]) C.1 C.2.1 dX9_spin_63 hl (by decide) rfl (fun ls hl => ?_)
      exact wX9_spin_65 C hX ho1 (wX9_spin_84 C hX ho1 ih) ea_N _ _ _ _ _ _ _ hf hw (lv_sub hl [1, 2, 3, 0] rfl)
set_option maxHeartbeats 4000000 in
set_option maxRecDepth 20000 in
theorem wX9_spin_38 (C : ea_C p s m args meth cd cX9_spin 5 none RX9) (hX : ea_X ids) (ho1 : ea_ok ids a1 1) : ∀ (x2 : Int32) (M : eM) (H : Heap) (locs : List Loc) (ls : Array Slot), fX9_spin_38 a1 x2 M = some res → ea_w E ids M s H locs → lv_has ls 5 [(0, .ref (E.1 4)), (1, .ref (E.1 a1)), (2, .int x2)] → W p l e (ea_rm 1 22) s m args below meth cd H locs 0 0 (MQ below (ea_Qv E ids res) args s 0 0 (ea_Ad E ids)) (F0 m 38 ls []) := by
  intro x2 M H locs ls hf  hw hl
  replace hf := (fX9_spin_38.eq_1 ..).symm.trans hf
  refine lv_aload_n C.1 C.2.1 dX9_spin_38 rfl (lv_at hl 1 rfl) ?_
  refine gf_X9_35 C hw ho1 dX9_spin_39 ?_
  refine lv_iconst (v := 2) C.1 C.2.1 dX9_spin_42 (by decide) ?_
  refine lv_icmp_ge (tgt := 47) C.1 C.2.1 dX9_spin_43 (by decide) (fun hc1 => ?_) (fun hc1 => ?_)
  · replace hf := ea_if_t hc1 hf
    refine lv_iconst (v := 0) C.1 C.2.1 dX9_spin_47 (by decide) ?_
    refine lv_istore_n (lv' := [(3, .int (0 : Int32)), (0, .ref (E.1 4)), (1, .ref (E.1 a1)), (2, .int x2)]) C.1 C.2.1 dX9_spin_48 rfl hl (by decide) rfl (fun ls hl => ?_)
    exact wX9_spin_49 C hX ho1 ea_N _ _ _ _ _ _ hf hw (lv_sub hl [1, 3, 0] rfl)
  · replace hf := ea_if_f hc1 hf
    exact ea_vret C hw hf dX9_spin_46
set_option maxHeartbeats 4000000 in
set_option maxRecDepth 20000 in
theorem wX9_spin_0 (C : ea_C p s m args meth cd cX9_spin 5 none RX9) (hX : ea_X ids) (ho1 : ea_ok ids a1 1) : ∀  (M : eM) (H : Heap) (locs : List Loc) (ls : Array Slot), fX9_spin_0 a1 M = some res → ea_w E ids M s H locs → lv_has ls 5 [(0, .ref (E.1 4)), (1, .ref (E.1 a1))] → W p l e (ea_rm 1 22) s m args below meth cd H locs 0 0 (MQ below (ea_Qv E ids res) args s 0 0 (ea_Ad E ids)) (F0 m 0 ls []) := by
  intro M H locs ls hf  hw hl
  replace hf := (fX9_spin_0.eq_1 ..).symm.trans hf
  refine lv_aload_n C.1 C.2.1 dX9_spin_0 rfl (lv_at hl 0 rfl) ?_
  refine lv_aload_n C.1 C.2.1 dX9_spin_1 rfl (lv_at hl 1 rfl) ?_
  refine pu_X9_18 C hw (hX 4 9 rfl) dX9_spin_2 (fun H locs hw => ?_)
  refine lv_aload_n C.1 C.2.1 dX9_spin_5 rfl (lv_at hl 0 rfl) ?_
  refine lv_iconst (v := 0) C.1 C.2.1 dX9_spin_6 (by decide) ?_
  refine pu_X9_22 C hw (hX 4 9 rfl) dX9_spin_7 (fun H locs hw => ?_)
  refine lv_aload_n C.1 C.2.1 dX9_spin_10 rfl (lv_at hl 1 rfl) ?_
  refine gf_X9_26 C hw ho1 dX9_spin_11 ?_
  refine lv_bipush (v := 9) C.1 C.2.1 dX9_spin_14 (by decide) ?_
  refine lv_imul C.1 C.2.1 dX9_spin_16 ?_
  obtain ⟨y1, ey2, hf⟩ := ea_lt_s hf
  refine ea_topi ey2 ?_
  refine lv_istore_n (lv' := [(2, .int y1), (0, .ref (E.1 4)), (1, .ref (E.1 a1))]) C.1 C.2.1 dX9_spin_17 rfl hl (by decide) rfl (fun ls hl => ?_)
  refine lv_iconst (v := 0) C.1 C.2.1 dX9_spin_18 (by decide) ?_
  refine lv_istore_n (lv' := [(3, .int (0 : Int32)), (2, .int y1), (0, .ref (E.1 4)), (1, .ref (E.1 a1))]) C.1 C.2.1 dX9_spin_19 rfl hl (by decide) rfl (fun ls hl => ?_)
  exact wX9_spin_20 C hX ho1 (wX9_spin_38 C hX ho1) ea_N _ _ _ _ _ _ hf hw (lv_sub hl [2, 3, 1, 0] rfl)
set_option maxHeartbeats 4000000 in
set_option maxRecDepth 20000 in
theorem mX9_spin {l : Launch} {E : eE} {ids : List Nat} (hX : ea_X ids) {a1 : Nat} (ho1 : ea_ok ids a1 1) {M : eM} {res : eM} (hf : fX9_spin a1 M = some res) : ea_Mv l yX9_spin cX9_spin 5 1 22 E ids [.ref (E.1 4), .ref (E.1 a1)] M res := by
  refine ea_gov (by decide) (Nat.le_of_ble_eq_true rfl) wc_X9_spin ?_
  intro p e s m below meth cd ls C hw hl
  exact wX9_spin_0 C hX ho1  _ _ _ _ hf hw hl
end SX9_spin

def fX10_isColour_0 (x0 : Int32) (M : eM) : Option (Int32 × eM) := ea_ci (fX10_isWithin x0 (0 : Int32) (2 : Int32) M) (fun r2 M3 => ea_ck (ea_01 r2) (some (r2, M3)))
def fX10_isColour (x0 : Int32) (M : eM) : Option (Int32 × eM) := fX10_isColour_0 x0 M
section SX10_isColour
variable {p : Program} {l : Launch} {e : Env} {s : State} {m : MethodId} {args : Array Value} {below : List Frame} {meth : Method} {cd : Code} {E : eE} {ids : List Nat} {res : Int32 × eM}
set_option maxHeartbeats 4000000 in
set_option maxRecDepth 20000 in
theorem wX10_isColour_0 (C : ea_C p s m args meth cd cX10_isColour 1 (some .boolean) RX10) (hX : ea_X ids) : ∀ (x0 : Int32) (M : eM) (H : Heap) (locs : List Loc) (ls : Array Slot), fX10_isColour_0 x0 M = some res → ea_w E ids M s H locs → lv_has ls 1 [(0, .int x0)] → W p l e (ea_rm 1 22) s m args below meth cd H locs 0 0 (MQ below (ea_Qi E ids res) args s 0 0 (ea_Ad E ids)) (F0 m 0 ls []) := by
  intro x0 M H locs ls hf  hw hl
  replace hf := (fX10_isColour_0.eq_1 ..).symm.trans hf
  refine lv_iload_n C.1 C.2.1 dX10_isColour_0 rfl (lv_at hl 0 rfl) ?_
  refine lv_iconst (v := 0) C.1 C.2.1 dX10_isColour_1 (by decide) ?_
  refine lv_iconst (v := 2) C.1 C.2.1 dX10_isColour_2 (by decide) ?_
  obtain ⟨r2, M3, he1, hf⟩ := ea_ci_s hf
  refine ea_runi2 hw (cl_X10_133 C hw (As := [.int x0, .int (0 : Int32), .int (2 : Int32)]) (rest := []) (mX10_isWithin (l := l) (E := E) (ids := ids) hX he1) (by decide) rfl hl.1 rfl (Nat.le_of_ble_eq_true rfl) dX10_isColour_3 ⟨Nat.le_refl _, Nat.le_refl _⟩) (fun H locs hw => ?_)
  obtain ⟨hc4, hf⟩ := ea_ck_s hf
  exact ea_zret C hw (ea_01_s hc4) hf dX10_isColour_6
set_option maxHeartbeats 4000000 in
set_option maxRecDepth 20000 in
theorem mX10_isColour {l : Launch} {E : eE} {ids : List Nat} (hX : ea_X ids) {x0 : Int32} {M : eM} {res : Int32 × eM} (hf : fX10_isColour x0 M = some res) : ea_Mi l yX10_isColour cX10_isColour 1 (some .boolean) 1 22 E ids [.int x0] M res := by
  refine ea_goi (by decide) (Nat.le_of_ble_eq_true rfl) wc_X10_isColour ?_
  intro p e s m below meth cd ls C hw hl
  exact wX10_isColour_0 C hX _ _ _ _ _ hf hw hl
end SX10_isColour

def fX10_isThread_0 (x1 : Int32) (M : eM) : Option (Int32 × eM) := ea_ci (fX10_isWithin x1 (0 : Int32) ((M.1 4 1) - (1 : Int32)) M) (fun r2 M3 => ea_ck (ea_01 r2) (some (r2, M3)))
def fX10_isThread (x1 : Int32) (M : eM) : Option (Int32 × eM) := fX10_isThread_0 x1 M
section SX10_isThread
variable {p : Program} {l : Launch} {e : Env} {s : State} {m : MethodId} {args : Array Value} {below : List Frame} {meth : Method} {cd : Code} {E : eE} {ids : List Nat} {res : Int32 × eM}
set_option maxHeartbeats 4000000 in
set_option maxRecDepth 20000 in
theorem wX10_isThread_0 (C : ea_C p s m args meth cd cX10_isThread 2 (some .boolean) RX10) (hX : ea_X ids) : ∀ (x1 : Int32) (M : eM) (H : Heap) (locs : List Loc) (ls : Array Slot), fX10_isThread_0 x1 M = some res → ea_w E ids M s H locs → lv_has ls 2 [(0, .ref (E.1 0)), (1, .int x1)] → W p l e (ea_rm 1 22) s m args below meth cd H locs 0 0 (MQ below (ea_Qi E ids res) args s 0 0 (ea_Ad E ids)) (F0 m 0 ls []) := by
  intro x1 M H locs ls hf  hw hl
  replace hf := (fX10_isThread_0.eq_1 ..).symm.trans hf
  refine lv_iload_n C.1 C.2.1 dX10_isThread_0 rfl (lv_at hl 1 rfl) ?_
  refine lv_iconst (v := 0) C.1 C.2.1 dX10_isThread_1 (by decide) ?_
  refine lv_aload_n C.1 C.2.1 dX10_isThread_2 rfl (lv_at hl 0 rfl) ?_
  refine gf_X10_24 C hw (hX 0 10 rfl) dX10_isThread_3 ?_
  refine gf_X10_289 C hw (hX 4 9 rfl) dX10_isThread_6 ?_
  refine lv_iconst (v := 1) C.1 C.2.1 dX10_isThread_9 (by decide) ?_
  refine lv_isub C.1 C.2.1 dX10_isThread_10 ?_
  obtain ⟨r2, M3, he1, hf⟩ := ea_ci_s hf
  refine ea_runi2 hw (cl_X10_133 C hw (As := [.int x1, .int (0 : Int32), .int ((M.1 4 1) - (1 : Int32))]) (rest := []) (mX10_isWithin (l := l) (E := E) (ids := ids) hX he1) (by decide) rfl hl.1 rfl (Nat.le_of_ble_eq_true rfl) dX10_isThread_11 ⟨Nat.le_refl _, Nat.le_refl _⟩) (fun H locs hw => ?_)
  obtain ⟨hc4, hf⟩ := ea_ck_s hf
  exact ea_zret C hw (ea_01_s hc4) hf dX10_isThread_14
set_option maxHeartbeats 4000000 in
set_option maxRecDepth 20000 in
theorem mX10_isThread {l : Launch} {E : eE} {ids : List Nat} (hX : ea_X ids) {x1 : Int32} {M : eM} {res : Int32 × eM} (hf : fX10_isThread x1 M = some res) : ea_Mi l yX10_isThread cX10_isThread 2 (some .boolean) 1 22 E ids [.ref (E.1 0), .int x1] M res := by
  refine ea_goi (by decide) (Nat.le_of_ble_eq_true rfl) wc_X10_isThread ?_
  intro p e s m below meth cd ls C hw hl
  exact wX10_isThread_0 C hX _ _ _ _ _ hf hw hl
end SX10_isThread

def fX10_colour_30 (x1 : Int32) (x2 : Int32) (x3 : Int32) (t0 : Int32) (M : eM) : Option (Int32 × eM) := if t0 = 0 then (some ((-2 : Int32), M)) else (ea_ci (fX9_shadeOf x1 x2 x3 M) (fun r3 M4 => some (r3, M4)))
def fX10_colour_29 (x1 : Int32) (x2 : Int32) (x3 : Int32) (M : eM) : Option (Int32 × eM) := fX10_colour_30 x1 x2 x3 (0 : Int32) M
def fX10_colour_0 (x1 : Int32) (x2 : Int32) (x3 : Int32) (M : eM) : Option (Int32 × eM) := ea_ci (fX10_isThread x1 M) (fun r2 M3 => if r2 = 0 then (fX10_colour_29 x1 x2 x3 M3) else (ea_ci (fX10_isWithin x2 (0 : Int32) (999999 : Int32) M3) (fun r6 M7 => if r6 = 0 then (fX10_colour_29 x1 x2 x3 M7) else (ea_ci (fX10_isColour x3 M7) (fun r10 M11 => if r10 = 0 then (fX10_colour_29 x1 x2 x3 M11) else (fX10_colour_30 x1 x2 x3 (1 : Int32) M11))))))
def fX10_colour (x1 : Int32) (x2 : Int32) (x3 : Int32) (M : eM) : Option (Int32 × eM) := fX10_colour_0 x1 x2 x3 M
section SX10_colour
variable {p : Program} {l : Launch} {e : Env} {s : State} {m : MethodId} {args : Array Value} {below : List Frame} {meth : Method} {cd : Code} {E : eE} {ids : List Nat} {res : Int32 × eM}
set_option maxHeartbeats 4000000 in
set_option maxRecDepth 20000 in
theorem wX10_colour_30 (C : ea_C p s m args meth cd cX10_colour 5 (some .int) RX10) (hX : ea_X ids) : ∀ (x1 : Int32) (x2 : Int32) (x3 : Int32) (t0 : Int32) (M : eM) (H : Heap) (locs : List Loc) (ls : Array Slot), fX10_colour_30 x1 x2 x3 t0 M = some res → ea_w E ids M s H locs → lv_has ls 5 [(0, .ref (E.1 0)), (1, .int x1), (2, .int x2), (3, .int x3)] → W p l e (ea_rm 4 94) s m args below meth cd H locs 0 0 (MQ below (ea_Qi E ids res) args s 0 0 (ea_Ad E ids)) (F0 m 30 ls [.int t0]) := by
  intro x1 x2 x3 t0 M H locs ls hf  hw hl
  replace hf := (fX10_colour_30.eq_1 ..).symm.trans hf
  refine lv_istore (lv' := [(4, .int t0), (0, .ref (E.1 0)), (1, .int x1), (2, .int x2), (3, .int x3)]) C.1 C.2.1 dX10_colour_30 hl (by decide) rfl (fun ls hl => ?_)
  refine lv_iload C.1 C.2.1 dX10_colour_32 (lv_at hl 0 rfl) ?_
  refine lv_if_eq (tgt := 50) C.1 C.2.1 dX10_colour_34 (by decide) (fun hc1 => ?_) (fun hc1 => ?_)
  · replace hf := ea_if_t hc1 hf
    refine lv_bipush (v := (-2 : Int32)) C.1 C.2.1 dX10_colour_50 (by decide) ?_
    exact ea_iret C hw hf dX10_colour_52
  · replace hf := ea_if_f hc1 hf
    refine lv_aload_n C.1 C.2.1 dX10_colour_37 rfl (lv_at hl 1 rfl) ?_
    refine gf_X10_24 C hw (hX 0 10 rfl) dX10_colour_38 ?_
    refine lv_iload_n C.1 C.2.1 dX10_colour_41 rfl (lv_at hl 2 rfl) ?_
    refine lv_iload_n C.1 C.2.1 dX10_colour_42 rfl (lv_at hl 3 rfl) ?_
    refine lv_iload_n C.1 C.2.1 dX10_colour_43 rfl (lv_at hl 4 rfl) ?_
    obtain ⟨r3, M4, he2, hf⟩ := ea_ci_s hf
    refine ea_runi2 hw (cl_X10_189 C hw (hX 4 9 rfl) (As := [.int x1, .int x2, .int x3]) (rest := []) (mX9_shadeOf (l := l) (E := E) (ids := ids) hX he2) (by decide) rfl hl.1 rfl (Nat.le_of_ble_eq_true rfl) dX10_colour_44 ⟨Nat.le_refl _, Nat.le_refl _⟩) (fun H locs hw => ?_)
    refine lv_goto (tgt := 52) C.1 C.2.1 dX10_colour_47 (by decide) ?_
    exact ea_iret C hw hf dX10_colour_52
set_option maxHeartbeats 4000000 in
set_option maxRecDepth 20000 in
theorem wX10_colour_29 (C : ea_C p s m args meth cd cX10_colour 5 (some .int) RX10) (hX : ea_X ids) : ∀ (x1 : Int32) (x2 : Int32) (x3 : Int32) (M : eM) (H : Heap) (locs : List Loc) (ls : Array Slot), fX10_colour_29 x1 x2 x3 M = some res → ea_w E ids M s H locs → lv_has ls 5 [(0, .ref (E.1 0)), (1, .int x1), (2, .int x2), (3, .int x3)] → W p l e (ea_rm 4 94) s m args below meth cd H locs 0 0 (MQ below (ea_Qi E ids res) args s 0 0 (ea_Ad E ids)) (F0 m 29 ls []) := by
  intro x1 x2 x3 M H locs ls hf  hw hl
  replace hf := (fX10_colour_29.eq_1 ..).symm.trans hf
  refine lv_iconst (v := 0) C.1 C.2.1 dX10_colour_29 (by decide) ?_
  exact wX10_colour_30 C hX _ _ _ _ _ _ _ _ hf hw (lv_sub hl [0, 1, 2, 3] rfl)
set_option maxHeartbeats 4000000 in
set_option maxRecDepth 20000 in
theorem wX10_colour_0 (C : ea_C p s m args meth cd cX10_colour 5 (some .int) RX10) (hX : ea_X ids) : ∀ (x1 : Int32) (x2 : Int32) (x3 : Int32) (M : eM) (H : Heap) (locs : List Loc) (ls : Array Slot), fX10_colour_0 x1 x2 x3 M = some res → ea_w E ids M s H locs → lv_has ls 5 [(0, .ref (E.1 0)), (1, .int x1), (2, .int x2), (3, .int x3)] → W p l e (ea_rm 4 94) s m args below meth cd H locs 0 0 (MQ below (ea_Qi E ids res) args s 0 0 (ea_Ad E ids)) (F0 m 0 ls []) := by
  intro x1 x2 x3 M H locs ls hf  hw hl
  replace hf := (fX10_colour_0.eq_1 ..).symm.trans hf
  refine lv_aload_n C.1 C.2.1 dX10_colour_0 rfl (lv_at hl 0 rfl) ?_
  refine lv_iload_n C.1 C.2.1 dX10_colour_1 rfl (lv_at hl 1 rfl) ?_
  obtain ⟨r2, M3, he1, hf⟩ := ea_ci_s hf
  refine ea_runi2 hw (cl_X10_183 C hw (hX 0 10 rfl) (As := [.int x1]) (rest := []) (mX10_isThread (l := l) (E := E) (ids := ids) hX he1) (by decide) rfl hl.1 rfl (Nat.le_of_ble_eq_true rfl) dX10_colour_2 ⟨Nat.le_refl _, Nat.le_refl _⟩) (fun H locs hw => ?_)
  refine lv_if_eq (tgt := 29) C.1 C.2.1 dX10_colour_5 (by decide) (fun hc4 => ?_) (fun hc4 => ?_)
  · replace hf := ea_if_t hc4 hf
    exact wX10_colour_29 C hX _ _ _ _ _ _ _ hf hw (lv_sub hl [0, 1, 2, 3] rfl)
  · replace hf := ea_if_f hc4 hf
    refine lv_iload_n C.1 C.2.1 dX10_colour_8 rfl (lv_at hl 2 rfl) ?_
    refine lv_iconst (v := 0) C.1 C.2.1 dX10_colour_9 (by decide) ?_
    refine lv_ldc (v := (999999 : Int32)) C.1 C.2.1 C.2.2.2.1 (C.2.2.2.2.1 _ wk_RX10_158) dX10_colour_10 ?_
    obtain ⟨r6, M7, he5, hf⟩ := ea_ci_s hf
    refine ea_runi2 hw (cl_X10_133 C hw (As := [.int x2, .int (0 : Int32), .int (999999 : Int32)]) (rest := []) (mX10_isWithin (l := l) (E := E) (ids := ids) hX he5) (by decide) rfl hl.1 rfl (Nat.le_of_ble_eq_true rfl) dX10_colour_12 ⟨Nat.le_refl _, Nat.le_refl _⟩) (fun H locs hw => ?_)
    refine lv_if_eq (tgt := 29) C.1 C.2.1 dX10_colour_15 (by decide) (fun hc8 => ?_) (fun hc8 => ?_)
    · replace hf := ea_if_t hc8 hf
      exact wX10_colour_29 C hX _ _ _ _ _ _ _ hf hw (lv_sub hl [0, 1, 2, 3] rfl)
    · replace hf := ea_if_f hc8 hf
      refine lv_iload_n C.1 C.2.1 dX10_colour_18 rfl (lv_at hl 3 rfl) ?_
      obtain ⟨r10, M11, he9, hf⟩ := ea_ci_s hf
      refine ea_runi2 hw (cl_X10_186 C hw (As := [.int x3]) (rest := []) (mX10_isColour (l := l) (E := E) (ids := ids) hX he9) (by decide) rfl hl.1 rfl (Nat.le_of_ble_eq_true rfl) dX10_colour_19 ⟨Nat.le_refl _, Nat.le_refl _⟩) (fun H locs hw => ?_)
      refine lv_if_eq (tgt := 29) C.1 C.2.1 dX10_colour_22 (by decide) (fun hc12 => ?_) (fun hc12 => ?_)
      · replace hf := ea_if_t hc12 hf
        exact wX10_colour_29 C hX _ _ _ _ _ _ _ hf hw (lv_sub hl [0, 1, 2, 3] rfl)
      · replace hf := ea_if_f hc12 hf
        refine lv_iconst (v := 1) C.1 C.2.1 dX10_colour_25 (by decide) ?_
        refine lv_goto (tgt := 30) C.1 C.2.1 dX10_colour_26 (by decide) ?_
        exact wX10_colour_30 C hX _ _ _ _ _ _ _ _ hf hw (lv_sub hl [0, 1, 2, 3] rfl)
set_option maxHeartbeats 4000000 in
set_option maxRecDepth 20000 in
theorem mX10_colour {l : Launch} {E : eE} {ids : List Nat} (hX : ea_X ids) {x1 : Int32} {x2 : Int32} {x3 : Int32} {M : eM} {res : Int32 × eM} (hf : fX10_colour x1 x2 x3 M = some res) : ea_Mi l yX10_colour cX10_colour 5 (some .int) 4 94 E ids [.ref (E.1 0), .int x1, .int x2, .int x3] M res := by
  refine ea_goi (by decide) (Nat.le_of_ble_eq_true rfl) wc_X10_colour ?_
  intro p e s m below meth cd ls C hw hl
  exact wX10_colour_0 C hX _ _ _ _ _ _ _ hf hw hl
end SX10_colour

def fX10_commonDivisor_7 (k34 : Int32 → eM → Option (Int32 × eM)) : Nat → Int32 → Int32 → Int32 → eM → Option (Int32 × eM)
  | 0, _, _, _, _ => none
  | n + 1, x2, x3, x4, M => if (64 : Int32) ≤ x4 then (k34 x2 M) else (if x3 ≤ 0 then (k34 x2 M) else (ea_ck (ea_nz x3) (fX10_commonDivisor_7 k34 n x3 (x2 - x2 / x3 * x3) (x4 + (1 : Int32)) M)))
def fX10_commonDivisor_34 (x2 : Int32) (M : eM) : Option (Int32 × eM) := some (ea_max (1 : Int32) x2, M)
def fX10_commonDivisor_0 (x0 : Int32) (x1 : Int32) (M : eM) : Option (Int32 × eM) := fX10_commonDivisor_7 (fX10_commonDivisor_34) ea_N x0 x1 (0 : Int32) M
def fX10_commonDivisor (x0 : Int32) (x1 : Int32) (M : eM) : Option (Int32 × eM) := fX10_commonDivisor_0 x0 x1 M
section SX10_commonDivisor
variable {p : Program} {l : Launch} {e : Env} {s : State} {m : MethodId} {args : Array Value} {below : List Frame} {meth : Method} {cd : Code} {E : eE} {ids : List Nat} {res : Int32 × eM}
set_option maxHeartbeats 4000000 in
set_option maxRecDepth 20000 in
theorem wX10_commonDivisor_7 (C : ea_C p s m args meth cd cX10_commonDivisor 6 (some .int) RX10) (hX : ea_X ids) {k34 : Int32 → eM → Option (Int32 × eM)} (hk34 : ∀ (x2 : Int32) (M : eM) (H : Heap) (locs : List Loc) (ls : Array Slot), k34 x2 M = some res → ea_w E ids M s H locs → lv_has ls 6 [(2, .int x2)] → W p l e (ea_rm 1 21) s m args below meth cd H locs 0 0 (MQ below (ea_Qi E ids res) args s 0 0 (ea_Ad E ids)) (F0 m 34 ls [])) : ∀ (n : Nat) (x2 : Int32) (x3 : Int32) (x4 : Int32) (M : eM) (H : Heap) (locs : List Loc) (ls : Array Slot), fX10_commonDivisor_7 k34 n x2 x3 x4 M = some res → ea_w E ids M s H locs → lv_has ls 6 [(2, .int x2), (3, .int x3), (4, .int x4)] → W p l e (ea_rm 1 21) s m args below meth cd H locs 0 0 (MQ below (ea_Qi E ids res) args s 0 0 (ea_Ad E ids)) (F0 m 7 ls []) := by
  intro n
  induction n with
  | zero => intro x2 x3 x4 M H locs ls hf; cases hf
  | succ n ih =>
    intro x2 x3 x4 M H locs ls hf  hw hl
    replace hf := (fX10_commonDivisor_7.eq_2 ..).symm.trans hf
    refine lv_iload C.1 C.2.1 dX10_commonDivisor_7 (lv_at hl 2 rfl) ?_
    refine lv_bipush (v := 64) C.1 C.2.1 dX10_commonDivisor_9 (by decide) ?_
    refine lv_icmp_ge (tgt := 34) C.1 C.2.1 dX10_commonDivisor_11 (by decide) (fun hc1 => ?_) (fun hc1 => ?_)
    · replace hf := ea_if_t hc1 hf
      exact hk34 _ _ _ _ _ hf hw (lv_sub hl [0] rfl)
    · replace hf := ea_if_f hc1 hf
      refine lv_iload_n C.1 C.2.1 dX10_commonDivisor_14 rfl (lv_at hl 1 rfl) ?_
      refine lv_if_le (tgt := 34) C.1 C.2.1 dX10_commonDivisor_15 (by decide) (fun hc2 => ?_) (fun hc2 => ?_)
      · replace hf := ea_if_t hc2 hf
        exact hk34 _ _ _ _ _ hf hw (lv_sub hl [0] rfl)
      · replace hf := ea_if_f hc2 hf
        refine lv_iload_n C.1 C.2.1 dX10_commonDivisor_18 rfl (lv_at hl 0 rfl) ?_
        refine lv_iload_n C.1 C.2.1 dX10_commonDivisor_19 rfl (lv_at hl 1 rfl) ?_
        obtain ⟨hc3, hf⟩ := ea_ck_s hf
        refine lv_irem C.1 C.2.1 dX10_commonDivisor_20 (ea_nz_s hc3) ?_
        refine lv_istore (lv' := [(5, .int (x2 - x2 / x3 * x3)), (2, .int x2), (3, .int x3), (4, .int x4)]) C.1 C.2.1 dX10_commonDivisor_21 hl (by decide) rfl (fun ls hl => ?_)
        refine lv_iload_n C.1 C.2.1 dX10_commonDivisor_23 rfl (lv_at hl 2 rfl) ?_
        refine lv_istore_n (lv' := [(2, .int x3), (5, .int (x2 - x2 / x3 * x3)), (3, .int x3), (4, .int x4)]) C.1 C.2.1 dX10_commonDivisor_24 rfl hl (by decide) rfl (fun ls hl => ?_)
        refine lv_iload C.1 C.2.1 dX10_commonDivisor_25 (lv_at hl 1 rfl) ?_
        refine lv_istore_n (lv' := [(3, .int (x2 - x2 / x3 * x3)), (2, .int x3), (5, .int (x2 - x2 / x3 * x3)), (4, .int x4)]) C.1 C.2.1 dX10_commonDivisor_27 rfl hl (by decide) rfl (fun ls hl => ?_)
        refine lv_iinc (v := x4 + (1 : Int32)) (lv' := [(4, .int (x4 + (1 : Int32))), (3, .int (x2 - x2 / x3 * x3)), (2, .int x3), (5, .int (x2 - x2 / x3 * x3))]) C.1 C.2.1 dX10_commonDivisor_28 hl (k := 3) rfl rfl (by decide) rfl (fun ls hl => ?_)
        refine lv_goto (tgt := 7) C.1 C.2.1 dX10_commonDivisor_31 (by decide) ?_
        exact ih _ _ _ _ _ _ _ hf hw (lv_sub hl [2, 1, 0] rfl)
set_option maxHeartbeats 4000000 in
set_option maxRecDepth 20000 in
theorem wX10_commonDivisor_34 (C : ea_C p s m args meth cd cX10_commonDivisor 6 (some .int) RX10) (hX : ea_X ids) : ∀ (x2 : Int32) (M : eM) (H : Heap) (locs : List Loc) (ls : Array Slot), fX10_commonDivisor_34 x2 M = some res → ea_w E ids M s H locs → lv_has ls 6 [(2, .int x2)] → W p l e (ea_rm 1 21) s m args below meth cd H locs 0 0 (MQ below (ea_Qi E ids res) args s 0 0 (ea_Ad E ids)) (F0 m 34 ls []) := by
  intro x2 M H locs ls hf  hw hl
  replace hf := (fX10_commonDivisor_34.eq_1 ..).symm.trans hf
  refine lv_iconst (v := 1) C.1 C.2.1 dX10_commonDivisor_34 (by decide) ?_
  refine lv_iload_n C.1 C.2.1 dX10_commonDivisor_35 rfl (lv_at hl 0 rfl) ?_
  refine mm_X10_369 C hl.1 (by decide) (Nat.le_of_ble_eq_true rfl) ⟨Nat.le_refl _, Nat.le_refl _⟩ dX10_commonDivisor_36 ?_
  exact ea_iret C hw hf dX10_commonDivisor_39
set_option maxHeartbeats 4000000 in
set_option maxRecDepth 20000 in
theorem wX10_commonDivisor_0 (C : ea_C p s m args meth cd cX10_commonDivisor 6 (some .int) RX10) (hX : ea_X ids) : ∀ (x0 : Int32) (x1 : Int32) (M : eM) (H : Heap) (locs : List Loc) (ls : Array Slot), fX10_commonDivisor_0 x0 x1 M = some res → ea_w E ids M s H locs → lv_has ls 6 [(0, .int x0), (1, .int x1)] → W p l e (ea_rm 1 21) s m args below meth cd H locs 0 0 (MQ below (ea_Qi E ids res) args s 0 0 (ea_Ad E ids)) (F0 m 0 ls []) := by
  intro x0 x1 M H locs ls hf  hw hl
  replace hf := (fX10_commonDivisor_0.eq_1 ..).symm.trans hf
  refine lv_iload_n C.1 C.2.1 dX10_commonDivisor_0 rfl (lv_at hl 0 rfl) ?_
  refine lv_istore_n (lv' := [(2, .int x0), (0, .int x0), (1, .int x1)]) C.1 C.2.1 dX10_commonDivisor_1 rfl hl (by decide) rfl (fun ls hl => ?_)
  refine lv_iload_n C.1 C.2.1 dX10_commonDivisor_2 rfl (lv_at hl 2 rfl) ?_
  refine lv_istore_n (lv' := [(3, .int x1), (2, .int x0), (0, .int x0), (1, .int x1)]) C.1 C.2.1 dX10_commonDivisor_3 rfl hl (by decide) rfl (fun ls hl => ?_)
  refine lv_iconst (v := 0) C.1 C.2.1 dX10_commonDivisor_4 (by decide) ?_
  refine lv_istore (lv' := [(4, .int (0 : Int32)), (3, .int x1), (2, .int x0), (0, .int x0), (1, .int x1)]) C.1 C.2.1 dX10_commonDivisor_5 hl (by decide) rfl (fun ls hl => ?_)
  exact wX10_commonDivisor_7 C hX (wX10_commonDivisor_34 C hX) ea_N _ _ _ _ _ _ _ hf hw (lv_sub hl [2, 1, 0] rfl)
set_option maxHeartbeats 4000000 in
set_option maxRecDepth 20000 in
theorem mX10_commonDivisor {l : Launch} {E : eE} {ids : List Nat} (hX : ea_X ids) {x0 : Int32} {x1 : Int32} {M : eM} {res : Int32 × eM} (hf : fX10_commonDivisor x0 x1 M = some res) : ea_Mi l yX10_commonDivisor cX10_commonDivisor 6 (some .int) 1 21 E ids [.int x0, .int x1] M res := by
  refine ea_goi (by decide) (Nat.le_of_ble_eq_true rfl) wc_X10_commonDivisor ?_
  intro p e s m below meth cd ls C hw hl
  exact wX10_commonDivisor_0 C hX _ _ _ _ _ _ hf hw hl
end SX10_commonDivisor

def fX10_count_0 (x1 : Int32) (M : eM) : Option (Int32 × eM) := if x1 = (0 : Int32) then (ea_ck (ea_is (M.2.2 4 0) 1) (some (M.1 (M.2.2 4 0) 4, M))) else (if x1 = (1 : Int32) then (some (M.1 30 3, M)) else (if x1 = (2 : Int32) then (some (M.1 30 4, M)) else (if x1 = (3 : Int32) then (some (M.1 30 5, M)) else (if x1 = (4 : Int32) then (some (M.1 4 1, M)) else (if x1 = (5 : Int32) then (some (M.1 1 1, M)) else (some ((-1 : Int32), M)))))))
def fX10_count (x1 : Int32) (M : eM) : Option (Int32 × eM) := fX10_count_0 x1 M
section SX10_count
variable {p : Program} {l : Launch} {e : Env} {s : State} {m : MethodId} {args : Array Value} {below : List Frame} {meth : Method} {cd : Code} {E : eE} {ids : List Nat} {res : Int32 × eM}
set_option maxHeartbeats 4000000 in
set_option maxRecDepth 20000 in
theorem wX10_count_0 (C : ea_C p s m args meth cd cX10_count 2 (some .int) RX10) (hX : ea_X ids) : ∀ (x1 : Int32) (M : eM) (H : Heap) (locs : List Loc) (ls : Array Slot), fX10_count_0 x1 M = some res → ea_w E ids M s H locs → lv_has ls 2 [(0, .ref (E.1 0)), (1, .int x1)] → W p l e (ea_rm 0 0) s m args below meth cd H locs 0 0 (MQ below (ea_Qi E ids res) args s 0 0 (ea_Ad E ids)) (F0 m 0 ls []) := by
  intro x1 M H locs ls hf  hw hl
  replace hf := (fX10_count_0.eq_1 ..).symm.trans hf
  refine lv_iload_n C.1 C.2.1 dX10_count_0 rfl (lv_at hl 1 rfl) ?_
  by_cases hc1 : x1 = (0 : Int32)
  · replace hf := ea_if_t hc1 hf
    refine lv_tableIn (tgt := 40) C.1 C.2.1 dX10_count_1 (by rw [hc1]; decide) (by rw [hc1]; decide) (by rw [hc1]; rfl) (by decide) ?_
    refine lv_aload_n C.1 C.2.1 dX10_count_40 rfl (lv_at hl 0 rfl) ?_
    refine gf_X10_24 C hw (hX 0 10 rfl) dX10_count_41 ?_
    refine gf_X10_110 C hw (hX 4 9 rfl) dX10_count_44 ?_
    obtain ⟨hc2, hf⟩ := ea_ck_s hf
    refine gf_X10_100 C hw (ea_dyn hX hc2) dX10_count_47 ?_
    exact ea_iret C hw hf dX10_count_50
  · replace hf := ea_if_f hc1 hf
    by_cases hc3 : x1 = (1 : Int32)
    · replace hf := ea_if_t hc3 hf
      refine lv_tableIn (tgt := 51) C.1 C.2.1 dX10_count_1 (by rw [hc3]; decide) (by rw [hc3]; decide) (by rw [hc3]; rfl) (by decide) ?_
      refine lv_aload_n C.1 C.2.1 dX10_count_51 rfl (lv_at hl 0 rfl) ?_
      refine gf_X10_44 C hw (hX 0 10 rfl) dX10_count_52 ?_
      refine gf_X10_202 C hw (hX 30 8 rfl) dX10_count_55 ?_
      exact ea_iret C hw hf dX10_count_58
    · replace hf := ea_if_f hc3 hf
      by_cases hc4 : x1 = (2 : Int32)
      · replace hf := ea_if_t hc4 hf
        refine lv_tableIn (tgt := 59) C.1 C.2.1 dX10_count_1 (by rw [hc4]; decide) (by rw [hc4]; decide) (by rw [hc4]; rfl) (by decide) ?_
        refine lv_aload_n C.1 C.2.1 dX10_count_59 rfl (lv_at hl 0 rfl) ?_
        refine gf_X10_44 C hw (hX 0 10 rfl) dX10_count_60 ?_
        refine gf_X10_209 C hw (hX 30 8 rfl) dX10_count_63 ?_
        exact ea_iret C hw hf dX10_count_66
      · replace hf := ea_if_f hc4 hf
        by_cases hc5 : x1 = (3 : Int32)
        · replace hf := ea_if_t hc5 hf
          refine lv_tableIn (tgt := 67) C.1 C.2.1 dX10_count_1 (by rw [hc5]; decide) (by rw [hc5]; decide) (by rw [hc5]; rfl) (by decide) ?_
          refine lv_aload_n C.1 C.2.1 dX10_count_67 rfl (lv_at hl 0 rfl) ?_
          refine gf_X10_44 C hw (hX 0 10 rfl) dX10_count_68 ?_
          refine gf_X10_215 C hw (hX 30 8 rfl) dX10_count_71 ?_
          exact ea_iret C hw hf dX10_count_74
        · replace hf := ea_if_f hc5 hf
          by_cases hc6 : x1 = (4 : Int32)
          · replace hf := ea_if_t hc6 hf
            refine lv_tableIn (tgt := 75) C.1 C.2.1 dX10_count_1 (by rw [hc6]; decide) (by rw [hc6]; decide) (by rw [hc6]; rfl) (by decide) ?_
            refine lv_aload_n C.1 C.2.1 dX10_count_75 rfl (lv_at hl 0 rfl) ?_
            refine gf_X10_24 C hw (hX 0 10 rfl) dX10_count_76 ?_
            refine gf_X10_289 C hw (hX 4 9 rfl) dX10_count_79 ?_
            exact ea_iret C hw hf dX10_count_82
          · replace hf := ea_if_f hc6 hf
            by_cases hc7 : x1 = (5 : Int32)
            · replace hf := ea_if_t hc7 hf
              refine lv_tableIn (tgt := 83) C.1 C.2.1 dX10_count_1 (by rw [hc7]; decide) (by rw [hc7]; decide) (by rw [hc7]; rfl) (by decide) ?_
              refine lv_aload_n C.1 C.2.1 dX10_count_83 rfl (lv_at hl 0 rfl) ?_
              refine gf_X10_10 C hw (hX 0 10 rfl) dX10_count_84 ?_
              refine gf_X10_89 C hw (hX 1 7 rfl) dX10_count_87 ?_
              exact ea_iret C hw hf dX10_count_90
            · replace hf := ea_if_f hc7 hf
              refine lv_tableOut (tgt := 91) C.1 C.2.1 dX10_count_1 (by have e0 : x1.toInt ≠ 0 := fun q => hc1 (Int32.toInt_inj.mp q); have e1 : x1.toInt ≠ 1 := fun q => hc3 (Int32.toInt_inj.mp q); have e2 : x1.toInt ≠ 2 := fun q => hc4 (Int32.toInt_inj.mp q); have e3 : x1.toInt ≠ 3 := fun q => hc5 (Int32.toInt_inj.mp q); have e4 : x1.toInt ≠ 4 := fun q => hc6 (Int32.toInt_inj.mp q); have e5 : x1.toInt ≠ 5 := fun q => hc7 (Int32.toInt_inj.mp q); omega) (by decide) ?_
              refine lv_iconst (v := (-1 : Int32)) C.1 C.2.1 dX10_count_91 (by decide) ?_
              exact ea_iret C hw hf dX10_count_92
set_option maxHeartbeats 4000000 in
set_option maxRecDepth 20000 in
theorem mX10_count {l : Launch} {E : eE} {ids : List Nat} (hX : ea_X ids) {x1 : Int32} {M : eM} {res : Int32 × eM} (hf : fX10_count x1 M = some res) : ea_Mi l yX10_count cX10_count 2 (some .int) 0 0 E ids [.ref (E.1 0), .int x1] M res := by
  refine ea_goi (by decide) (Nat.le_of_ble_eq_true rfl) wc_X10_count ?_
  intro p e s m below meth cd ls C hw hl
  exact wX10_count_0 C hX _ _ _ _ _ hf hw hl
end SX10_count
