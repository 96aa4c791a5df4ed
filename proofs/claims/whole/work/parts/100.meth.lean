def fJ6_bitCount_0f7a4_0 (x0 : Int32) (M : eM) : Option (Int32 × eM) := ea_lt (x0 - (((x0.toUInt32 >>> ((1 : Int32).toUInt32 &&& Int32.toUInt32 31)).toInt32) &&& (1431655765 : Int32))) (fun y1 => ea_lt ((y1 &&& (858993459 : Int32)) + (((y1.toUInt32 >>> ((2 : Int32).toUInt32 &&& Int32.toUInt32 31)).toInt32) &&& (858993459 : Int32))) (fun y3 => ea_lt ((y3 + ((y3.toUInt32 >>> ((4 : Int32).toUInt32 &&& Int32.toUInt32 31)).toInt32)) &&& (252645135 : Int32)) (fun y5 => ea_lt (y5 + ((y5.toUInt32 >>> ((8 : Int32).toUInt32 &&& Int32.toUInt32 31)).toInt32)) (fun y7 => ea_lt (y7 + ((y7.toUInt32 >>> ((16 : Int32).toUInt32 &&& Int32.toUInt32 31)).toInt32)) (fun y9 => some (y9 &&& (63 : Int32), M))))))
def fJ6_bitCount_0f7a4 (x0 : Int32) (M : eM) : Option (Int32 × eM) := fJ6_bitCount_0f7a4_0 x0 M
section SJ6_bitCount_0f7a4
variable {p : Program} {l : Launch} {e : Env} {s : State} {m : MethodId} {args : Array Value} {below : List Frame} {meth : Method} {cd : Code} {E : eE} {ids : List Nat} {res : Int32 × eM}
set_option maxHeartbeats 4000000 in
set_option maxRecDepth 20000 in
theorem wJ6_bitCount_0f7a4_0 (C : ea_C p s m args meth cd cJ6_bitCount_0f7a4 1 (some .int) RJ6) : ∀ (x0 : Int32) (M : eM) (H : Heap) (locs : List Loc) (ls : Array Slot), fJ6_bitCount_0f7a4_0 x0 M = some res → ea_w E ids M s H locs → lv_has ls 1 [(0, .int x0)] → W p l e (ea_rm 0 0) s m args below meth cd H locs 0 0 (MQ below (ea_Qi E ids res) args s 0 0 (ea_Ad E ids)) (F0 m 0 ls []) := by
  intro x0 M H locs ls hf  hw hl
  replace hf := (fJ6_bitCount_0f7a4_0.eq_1 ..).symm.trans hf
  refine lv_iload_n C.1 C.2.1 dJ6_bitCount_0f7a4_0 rfl (lv_at hl 0 rfl) ?_
  refine lv_iload_n C.1 C.2.1 dJ6_bitCount_0f7a4_1 rfl (lv_at hl 0 rfl) ?_
  refine lv_iconst (v := 1) C.1 C.2.1 dJ6_bitCount_0f7a4_2 (by decide) ?_
  refine lv_iushr C.1 C.2.1 dJ6_bitCount_0f7a4_3 rfl ?_
  refine lv_ldcw (v := (1431655765 : Int32)) C.1 C.2.1 C.2.2.2.1 (C.2.2.2.2.1 _ wk_RJ6_265) dJ6_bitCount_0f7a4_4 ?_
  refine lv_iand C.1 C.2.1 dJ6_bitCount_0f7a4_7 ?_
  refine lv_isub C.1 C.2.1 dJ6_bitCount_0f7a4_8 ?_
  obtain ⟨y1, ey2, hf⟩ := ea_lt_s hf
  refine ea_topi ey2 ?_
  refine lv_istore_n (lv' := [(0, .int y1)]) C.1 C.2.1 dJ6_bitCount_0f7a4_9 rfl hl (by decide) rfl (fun ls hl => ?_)
  refine lv_iload_n C.1 C.2.1 dJ6_bitCount_0f7a4_10 rfl (lv_at hl 0 rfl) ?_
  refine lv_ldcw (v := (858993459 : Int32)) C.1 C.2.1 C.2.2.2.1 (C.2.2.2.2.1 _ wk_RJ6_266) dJ6_bitCount_0f7a4_11 ?_
  refine lv_iand C.1 C.2.1 dJ6_bitCount_0f7a4_14 ?_
  refine lv_iload_n C.1 C.2.1 dJ6_bitCount_0f7a4_15 rfl (lv_at hl 0 rfl) ?_
  refine lv_iconst (v := 2) C.1 C.2.1 dJ6_bitCount_0f7a4_16 (by decide) ?_
  refine lv_iushr C.1 C.2.1 dJ6_bitCount_0f7a4_17 rfl ?_
  refine lv_ldcw (v := (858993459 : Int32)) C.1 C.2.1 C.2.2.2.1 (C.2.2.2.2.1 _ wk_RJ6_266) dJ6_bitCount_0f7a4_18 ?_
  refine lv_iand C.1 C.2.1 dJ6_bitCount_0f7a4_21 ?_
  refine lv_iadd C.1 C.2.1 dJ6_bitCount_0f7a4_22 ?_
  obtain ⟨y3, ey4, hf⟩ := ea_lt_s hf
  refine ea_topi ey4 ?_
  refine lv_istore_n (lv' := [(0, .int y3)]) C.1 C.2.1 dJ6_bitCount_0f7a4_23 rfl hl (by decide) rfl (fun ls hl => ?_)
  refine lv_iload_n C.1 C.2.1 dJ6_bitCount_0f7a4_24 rfl (lv_at hl 0 rfl) ?_
  refine lv_iload_n C.1 C.2.1 dJ6_bitCount_0f7a4_25 rfl (lv_at hl 0 rfl) ?_
  refine lv_iconst (v := 4) C.1 C.2.1 dJ6_bitCount_0f7a4_26 (by decide) ?_
  refine lv_iushr C.1 C.2.1 dJ6_bitCount_0f7a4_27 rfl ?_
  refine lv_iadd C.1 C.2.1 dJ6_bitCount_0f7a4_28 ?_
  refine lv_ldcw (v := (252645135 : Int32)) C.1 C.2.1 C.2.2.2.1 (C.2.2.2.2.1 _ wk_RJ6_267) dJ6_bitCount_0f7a4_29 ?_
  refine lv_iand C.1 C.2.1 dJ6_bitCount_0f7a4_32 ?_
  obtain ⟨y5, ey6, hf⟩ := ea_lt_s hf
  refine ea_topi ey6 ?_
  refine lv_istore_n (lv' := [(0, .int y5)]) C.1 C.2.1 dJ6_bitCount_0f7a4_33 rfl hl (by decide) rfl (fun ls hl => ?_)
  refine lv_iload_n C.1 C.2.1 dJ6_bitCount_0f7a4_34 rfl (lv_at hl 0 rfl) ?_
  refine lv_iload_n C.1 C.2.1 dJ6_bitCount_0f7a4_35 rfl (lv_at hl 0 rfl) ?_
  refine lv_bipush (v := 8) C.1 C.2.1 dJ6_bitCount_0f7a4_36 (by decide) ?_
  refine lv_iushr C.1 C.2.1 dJ6_bitCount_0f7a4_38 rfl ?_
  refine lv_iadd C.1 C.2.1 dJ6_bitCount_0f7a4_39 ?_
  obtain ⟨y7, ey8, hf⟩ := ea_lt_s hf
  refine ea_topi ey8 ?_
  refine lv_istore_n (lv' := [(0, .int y7)]) C.1 C.2.1 dJ6_bitCount_0f7a4_40 rfl hl (by decide) rfl (fun ls hl => ?_)
  refine lv_iload_n C.1 C.2.1 dJ6_bitCount_0f7a4_41 rfl (lv_at hl 0 rfl) ?_
  refine lv_iload_n C.1 C.2.1 dJ6_bitCount_0f7a4_42 rfl (lv_at hl 0 rfl) ?_
  refine lv_bipush (v := 16) C.1 C.2.1 dJ6_bitCount_0f7a4_43 (by decide) ?_
  refine lv_iushr C.1 C.2.1 dJ6_bitCount_0f7a4_45 rfl ?_
  refine lv_iadd C.1 C.2.1 dJ6_bitCount_0f7a4_46 ?_
  obtain ⟨y9, ey10, hf⟩ := ea_lt_s hf
  refine ea_topi ey10 ?_
  refine lv_istore_n (lv' := [(0, .int y9)]) C.1 C.2.1 dJ6_bitCount_0f7a4_47 rfl hl (by decide) rfl (fun ls hl => ?_)
  refine lv_iload_n C.1 C.2.1 dJ6_bitCount_0f7a4_48 rfl (lv_at hl 0 rfl) ?_
  refine lv_bipush (v := 63) C.1 C.2.1 dJ6_bitCount_0f7a4_49 (by decide) ?_
  refine lv_iand C.1 C.2.1 dJ6_bitCount_0f7a4_51 ?_
  exact ea_iret C hw hf dJ6_bitCount_0f7a4_52
set_option maxHeartbeats 4000000 in
set_option maxRecDepth 20000 in
theorem mJ6_bitCount_0f7a4 {l : Launch} {E : eE} {ids : List Nat} {x0 : Int32} {M : eM} {res : Int32 × eM} (hf : fJ6_bitCount_0f7a4 x0 M = some res) : ea_Mi l yJ6_bitCount_0f7a4 cJ6_bitCount_0f7a4 1 (some .int) 0 0 E ids [.int x0] M res := by
  refine ea_goi (by decide) (Nat.le_of_ble_eq_true rfl) wc_J6_bitCount_0f7a4 ?_
  intro p e s m below meth cd ls C hw hl
  exact wJ6_bitCount_0f7a4_0 C _ _ _ _ _ hf hw hl
end SJ6_bitCount_0f7a4

def fJ7_fill_53178_5 (a0 : Nat) : Nat → Int32 → Int32 → Int32 → eM → Option (eM)
  | 0, _, _, _, _ => none
  | n + 1, x1, x2, x3, M => if x3 ≤ x2 then (some M) else (ea_ck (ea_ix x2 (ea_len a0)) (fJ7_fill_53178_5 a0 n x1 (x2 + (1 : Int32)) x3 (ea_pI M a0 (x2.toNatClampNeg) x1)))
def fJ7_fill_53178_0 (a0 : Nat) (x1 : Int32) (M : eM) : Option (eM) := fJ7_fill_53178_5 a0 ea_N x1 (0 : Int32) (nI (ea_len a0)) M
def fJ7_fill_53178 (a0 : Nat) (x1 : Int32) (M : eM) : Option (eM) := fJ7_fill_53178_0 a0 x1 M
section SJ7_fill_53178
variable {p : Program} {l : Launch} {e : Env} {s : State} {m : MethodId} {args : Array Value} {below : List Frame} {meth : Method} {cd : Code} {E : eE} {ids : List Nat} {res : eM} {a0 : Nat}
set_option maxHeartbeats 4000000 in
set_option maxRecDepth 20000 in
theorem wJ7_fill_53178_5 (C : ea_C p s m args meth cd cJ7_fill_53178 4 none RJ7) (ho0 : ea_ok ids a0 20) : ∀ (n : Nat) (x1 : Int32) (x2 : Int32) (x3 : Int32) (M : eM) (H : Heap) (locs : List Loc) (ls : Array Slot), fJ7_fill_53178_5 a0 n x1 x2 x3 M = some res → ea_w E ids M s H locs → lv_has ls 4 [(0, .ref (E.1 a0)), (1, .int x1), (2, .int x2), (3, .int x3)] → W p l e (ea_rm 0 0) s m args below meth cd H locs 0 0 (MQ below (ea_Qv E ids res) args s 0 0 (ea_Ad E ids)) (F0 m 5 ls []) := by
  intro n
  induction n with
  | zero => intro x1 x2 x3 M H locs ls hf; cases hf
  | succ n ih =>
    intro x1 x2 x3 M H locs ls hf  hw hl
    replace hf := (fJ7_fill_53178_5.eq_2 ..).symm.trans hf
    refine lv_iload_n C.1 C.2.1 dJ7_fill_53178_5 rfl (lv_at hl 2 rfl) ?_
    refine lv_iload_n C.1 C.2.1 dJ7_fill_53178_6 rfl (lv_at hl 3 rfl) ?_
    refine lv_icmp_ge (tgt := 20) C.1 C.2.1 dJ7_fill_53178_7 (by decide) (fun hc1 => ?_) (fun hc1 => ?_)
    · replace hf := ea_if_t hc1 hf
      exact ea_vret C hw hf dJ7_fill_53178_20
    · replace hf := ea_if_f hc1 hf
      refine lv_aload_n C.1 C.2.1 dJ7_fill_53178_10 rfl (lv_at hl 0 rfl) ?_
      refine lv_iload_n C.1 C.2.1 dJ7_fill_53178_11 rfl (lv_at hl 2 rfl) ?_
      refine lv_iload_n C.1 C.2.1 dJ7_fill_53178_12 rfl (lv_at hl 1 rfl) ?_
      obtain ⟨hc2, hf⟩ := ea_ck_s hf
      refine ea_iast C hw ho0 hc2 dJ7_fill_53178_13 (fun H locs hw => ?_)
      refine lv_iinc (v := x2 + (1 : Int32)) (lv' := [(2, .int (x2 + (1 : Int32))), (0, .ref (E.1 a0)), (1, .int x1), (3, .int x3)]) C.1 C.2.1 dJ7_fill_53178_14 hl (k := 2) rfl rfl (by decide) rfl (fun ls hl => ?_)
      refine lv_goto (tgt := 5) C.1 C.2.1 dJ7_fill_53178_17 (by decide) ?_
      exact ih _ _ _ _ _ _ _ hf hw (lv_sub hl [1, 2, 0, 3] rfl)
set_option maxHeartbeats 4000000 in
set_option maxRecDepth 20000 in
theorem wJ7_fill_53178_0 (C : ea_C p s m args meth cd cJ7_fill_53178 4 none RJ7) (ho0 : ea_ok ids a0 20) : ∀ (x1 : Int32) (M : eM) (H : Heap) (locs : List Loc) (ls : Array Slot), fJ7_fill_53178_0 a0 x1 M = some res → ea_w E ids M s H locs → lv_has ls 4 [(0, .ref (E.1 a0)), (1, .int x1)] → W p l e (ea_rm 0 0) s m args below meth cd H locs 0 0 (MQ below (ea_Qv E ids res) args s 0 0 (ea_Ad E ids)) (F0 m 0 ls []) := by
  intro x1 M H locs ls hf  hw hl
  replace hf := (fJ7_fill_53178_0.eq_1 ..).symm.trans hf
  refine lv_iconst (v := 0) C.1 C.2.1 dJ7_fill_53178_0 (by decide) ?_
  refine lv_istore_n (lv' := [(2, .int (0 : Int32)), (0, .ref (E.1 a0)), (1, .int x1)]) C.1 C.2.1 dJ7_fill_53178_1 rfl hl (by decide) rfl (fun ls hl => ?_)
  refine lv_aload_n C.1 C.2.1 dJ7_fill_53178_2 rfl (lv_at hl 1 rfl) ?_
  refine ea_alen C hw ho0 (by decide) dJ7_fill_53178_3 ?_
  refine lv_istore_n (lv' := [(3, .int (nI (ea_len a0))), (2, .int (0 : Int32)), (0, .ref (E.1 a0)), (1, .int x1)]) C.1 C.2.1 dJ7_fill_53178_4 rfl hl (by decide) rfl (fun ls hl => ?_)
  exact wJ7_fill_53178_5 C ho0 ea_N _ _ _ _ _ _ _ hf hw (lv_sub hl [2, 3, 1, 0] rfl)
set_option maxHeartbeats 4000000 in
set_option maxRecDepth 20000 in
theorem mJ7_fill_53178 {l : Launch} {E : eE} {ids : List Nat} {a0 : Nat} {x1 : Int32} (ho0 : ea_ok ids a0 20) {M : eM} {res : eM} (hf : fJ7_fill_53178 a0 x1 M = some res) : ea_Mv l yJ7_fill_53178 cJ7_fill_53178 4 0 0 E ids [.ref (E.1 a0), .int x1] M res := by
  refine ea_gov (by decide) (Nat.le_of_ble_eq_true rfl) wc_J7_fill_53178 ?_
  intro p e s m below meth cd ls C hw hl
  exact wJ7_fill_53178_0 C ho0 _ _ _ _ _ hf hw hl
end SJ7_fill_53178

def fJ7_rangeCheck_23922_0 (x0 : Int32) (x1 : Int32) (x2 : Int32) (M : eM) : Option (eM) := if x1 ≤ x2 then (if 0 ≤ x1 then (if x2 ≤ x0 then (some M) else none) else none) else none
def fJ7_rangeCheck_23922 (x0 : Int32) (x1 : Int32) (x2 : Int32) (M : eM) : Option (eM) := fJ7_rangeCheck_23922_0 x0 x1 x2 M
section SJ7_rangeCheck_23922
variable {p : Program} {l : Launch} {e : Env} {s : State} {m : MethodId} {args : Array Value} {below : List Frame} {meth : Method} {cd : Code} {E : eE} {ids : List Nat} {res : eM}
set_option maxHeartbeats 4000000 in
set_option maxRecDepth 20000 in
theorem wJ7_rangeCheck_23922_0 (C : ea_C p s m args meth cd cJ7_rangeCheck_23922 3 none RJ7) : ∀ (x0 : Int32) (x1 : Int32) (x2 : Int32) (M : eM) (H : Heap) (locs : List Loc) (ls : Array Slot), fJ7_rangeCheck_23922_0 x0 x1 x2 M = some res → ea_w E ids M s H locs → lv_has ls 3 [(0, .int x0), (1, .int x1), (2, .int x2)] → W p l e (ea_rm 0 0) s m args below meth cd H locs 0 0 (MQ below (ea_Qv E ids res) args s 0 0 (ea_Ad E ids)) (F0 m 0 ls []) := by
  intro x0 x1 x2 M H locs ls hf  hw hl
  replace hf := (fJ7_rangeCheck_23922_0.eq_1 ..).symm.trans hf
  refine lv_iload_n C.1 C.2.1 dJ7_rangeCheck_23922_0 rfl (lv_at hl 1 rfl) ?_
  refine lv_iload_n C.1 C.2.1 dJ7_rangeCheck_23922_1 rfl (lv_at hl 2 rfl) ?_
  refine lv_icmp_le (tgt := 46) C.1 C.2.1 dJ7_rangeCheck_23922_2 (by decide) (fun hc1 => ?_) (fun hc1 => ?_)
  · replace hf := ea_if_t hc1 hf
    refine lv_iload_n C.1 C.2.1 dJ7_rangeCheck_23922_46 rfl (lv_at hl 1 rfl) ?_
    refine lv_if_ge (tgt := 59) C.1 C.2.1 dJ7_rangeCheck_23922_47 (by decide) (fun hc2 => ?_) (fun hc2 => ?_)
    · replace hf := ea_if_t hc2 hf
      refine lv_iload_n C.1 C.2.1 dJ7_rangeCheck_23922_59 rfl (lv_at hl 2 rfl) ?_
      refine lv_iload_n C.1 C.2.1 dJ7_rangeCheck_23922_60 rfl (lv_at hl 0 rfl) ?_
      refine lv_icmp_le (tgt := 73) C.1 C.2.1 dJ7_rangeCheck_23922_61 (by decide) (fun hc3 => ?_) (fun hc3 => ?_)
      · replace hf := ea_if_t hc3 hf
        exact ea_vret C hw hf dJ7_rangeCheck_23922_73
      · replace hf := ea_if_f hc3 hf
        cases hf
    · replace hf := ea_if_f hc2 hf
      cases hf
  · replace hf := ea_if_f hc1 hf
    cases hf
set_option maxHeartbeats 4000000 in
set_option maxRecDepth 20000 in
theorem mJ7_rangeCheck_23922 {l : Launch} {E : eE} {ids : List Nat} {x0 : Int32} {x1 : Int32} {x2 : Int32} {M : eM} {res : eM} (hf : fJ7_rangeCheck_23922 x0 x1 x2 M = some res) : ea_Mv l yJ7_rangeCheck_23922 cJ7_rangeCheck_23922 3 0 0 E ids [.int x0, .int x1, .int x2] M res := by
  refine ea_gov (by decide) (Nat.le_of_ble_eq_true rfl) wc_J7_rangeCheck_23922 ?_
  intro p e s m below meth cd ls C hw hl
  exact wJ7_rangeCheck_23922_0 C _ _ _ _ _ _ _ hf hw hl
end SJ7_rangeCheck_23922

def fJ7_fill_fda19_10 (a0 : Nat) : Nat → Int32 → Int32 → Int32 → eM → Option (eM)
  | 0, _, _, _, _ => none
  | n + 1, x2, x3, x4, M => if x2 ≤ x4 then (some M) else (ea_ck (ea_ix x4 (ea_len a0)) (fJ7_fill_fda19_10 a0 n x2 x3 (x4 + (1 : Int32)) (ea_pI M a0 (x4.toNatClampNeg) x3)))
def fJ7_fill_fda19_0 (a0 : Nat) (x1 : Int32) (x2 : Int32) (x3 : Int32) (M : eM) : Option (eM) := ea_cv (fJ7_rangeCheck_23922 (nI (ea_len a0)) x1 x2 M) (fun M2 => fJ7_fill_fda19_10 a0 ea_N x2 x3 x1 M2)
def fJ7_fill_fda19 (a0 : Nat) (x1 : Int32) (x2 : Int32) (x3 : Int32) (M : eM) : Option (eM) := fJ7_fill_fda19_0 a0 x1 x2 x3 M
section SJ7_fill_fda19
variable {p : Program} {l : Launch} {e : Env} {s : State} {m : MethodId} {args : Array Value} {below : List Frame} {meth : Method} {cd : Code} {E : eE} {ids : List Nat} {res : eM} {a0 : Nat}
set_option maxHeartbeats 4000000 in
set_option maxRecDepth 20000 in
theorem wJ7_fill_fda19_10 (C : ea_C p s m args meth cd cJ7_fill_fda19 5 none RJ7) (ho0 : ea_ok ids a0 20) : ∀ (n : Nat) (x2 : Int32) (x3 : Int32) (x4 : Int32) (M : eM) (H : Heap) (locs : List Loc) (ls : Array Slot), fJ7_fill_fda19_10 a0 n x2 x3 x4 M = some res → ea_w E ids M s H locs → lv_has ls 5 [(0, .ref (E.1 a0)), (2, .int x2), (3, .int x3), (4, .int x4)] → W p l e (ea_rm 1 22) s m args below meth cd H locs 0 0 (MQ below (ea_Qv E ids res) args s 0 0 (ea_Ad E ids)) (F0 m 10 ls []) := by
  intro n
  induction n with
  | zero => intro x2 x3 x4 M H locs ls hf; cases hf
  | succ n ih =>
    intro x2 x3 x4 M H locs ls hf  hw hl
    replace hf := (fJ7_fill_fda19_10.eq_2 ..).symm.trans hf
    refine lv_iload C.1 C.2.1 dJ7_fill_fda19_10 (lv_at hl 3 rfl) ?_
    refine lv_iload_n C.1 C.2.1 dJ7_fill_fda19_12 rfl (lv_at hl 1 rfl) ?_
    refine lv_icmp_ge (tgt := 27) C.1 C.2.1 dJ7_fill_fda19_13 (by decide) (fun hc1 => ?_) (fun hc1 => ?_)
    · replace hf := ea_if_t hc1 hf
      exact ea_vret C hw hf dJ7_fill_fda19_27
    · replace hf := ea_if_f hc1 hf
      refine lv_aload_n C.1 C.2.1 dJ7_fill_fda19_16 rfl (lv_at hl 0 rfl) ?_
      refine lv_iload C.1 C.2.1 dJ7_fill_fda19_17 (lv_at hl 3 rfl) ?_
      refine lv_iload_n C.1 C.2.1 dJ7_fill_fda19_19 rfl (lv_at hl 2 rfl) ?_
      obtain ⟨hc2, hf⟩ := ea_ck_s hf
      refine ea_iast C hw ho0 hc2 dJ7_fill_fda19_20 (fun H locs hw => ?_)
      refine lv_iinc (v := x4 + (1 : Int32)) (lv' := [(4, .int (x4 + (1 : Int32))), (0, .ref (E.1 a0)), (2, .int x2), (3, .int x3)]) C.1 C.2.1 dJ7_fill_fda19_21 hl (k := 3) rfl rfl (by decide) rfl (fun ls hl => ?_)
      refine lv_goto (tgt := 10) C.1 C.2.1 dJ7_fill_fda19_24 (by decide) ?_
      exact ih _ _ _ _ _ _ _ hf hw (lv_sub hl [1, 2, 3, 0] rfl)
set_option maxHeartbeats 4000000 in
set_option maxRecDepth 20000 in
theorem wJ7_fill_fda19_0 (C : ea_C p s m args meth cd cJ7_fill_fda19 5 none RJ7) (ho0 : ea_ok ids a0 20) : ∀ (x1 : Int32) (x2 : Int32) (x3 : Int32) (M : eM) (H : Heap) (locs : List Loc) (ls : Array Slot), fJ7_fill_fda19_0 a0 x1 x2 x3 M = some res → ea_w E ids M s H locs → lv_has ls 5 [(0, .ref (E.1 a0)), (1, .int x1), (2, .int x2), (3, .int x3)] → W p l e (ea_rm 1 22) s m args below meth cd H locs 0 0 (MQ below (ea_Qv E ids res) args s 0 0 (ea_Ad E ids)) (F0 m 0 ls []) := by
  intro x1 x2 x3 M H locs ls hf  hw hl
  replace hf := (fJ7_fill_fda19_0.eq_1 ..).symm.trans hf
  refine lv_aload_n C.1 C.2.1 dJ7_fill_fda19_0 rfl (lv_at hl 0 rfl) ?_
  refine ea_alen C hw ho0 (by decide) dJ7_fill_fda19_1 ?_
  refine lv_iload_n C.1 C.2.1 dJ7_fill_fda19_2 rfl (lv_at hl 1 rfl) ?_
  refine lv_iload_n C.1 C.2.1 dJ7_fill_fda19_3 rfl (lv_at hl 2 rfl) ?_
  obtain ⟨M2, he1, hf⟩ := ea_cv_s hf
  refine ea_runv hw (cl_J7_13 C hw (As := [.int (nI (ea_len a0)), .int x1, .int x2]) (rest := []) (mJ7_rangeCheck_23922 (l := l) (E := E) (ids := ids) he1) (by decide) rfl hl.1 rfl (Nat.le_of_ble_eq_true rfl) dJ7_fill_fda19_4 ⟨Nat.le_refl _, Nat.le_refl _⟩) (fun H locs hw => ?_)
  refine lv_iload_n C.1 C.2.1 dJ7_fill_fda19_7 rfl (lv_at hl 1 rfl) ?_
  refine lv_istore (lv' := [(4, .int x1), (0, .ref (E.1 a0)), (1, .int x1), (2, .int x2), (3, .int x3)]) C.1 C.2.1 dJ7_fill_fda19_8 hl (by decide) rfl (fun ls hl => ?_)
  exact wJ7_fill_fda19_10 C ho0 ea_N _ _ _ _ _ _ _ hf hw (lv_sub hl [1, 3, 4, 0] rfl)
set_option maxHeartbeats 4000000 in
set_option maxRecDepth 20000 in
theorem mJ7_fill_fda19 {l : Launch} {E : eE} {ids : List Nat} {a0 : Nat} {x1 : Int32} {x2 : Int32} {x3 : Int32} (ho0 : ea_ok ids a0 20) {M : eM} {res : eM} (hf : fJ7_fill_fda19 a0 x1 x2 x3 M = some res) : ea_Mv l yJ7_fill_fda19 cJ7_fill_fda19 5 1 22 E ids [.ref (E.1 a0), .int x1, .int x2, .int x3] M res := by
  refine ea_gov (by decide) (Nat.le_of_ble_eq_true rfl) wc_J7_fill_fda19 ?_
  intro p e s m below meth cd ls C hw hl
  exact wJ7_fill_fda19_0 C ho0 _ _ _ _ _ _ _ hf hw hl
end SJ7_fill_fda19

def fX0_draw_0 (x1 : Int32) (M : eM) : Option (Int32 × eM) := if x1 ≤ 0 then (some ((0 : Int32), ea_pL M 78 0 ((((1103515245 : Int64) * (M.2.1 78 0)) + (12345 : Int64)) - (((1103515245 : Int64) * (M.2.1 78 0)) + (12345 : Int64)) / (2147483648 : Int64) * (2147483648 : Int64)))) else (ea_ck (ea_nzL x1.toInt64) (some (((((ea_pL M 78 0 ((((1103515245 : Int64) * (M.2.1 78 0)) + (12345 : Int64)) - (((1103515245 : Int64) * (M.2.1 78 0)) + (12345 : Int64)) / (2147483648 : Int64) * (2147483648 : Int64))).2.1 78 0) / (65536 : Int64)) - (((ea_pL M 78 0 ((((1103515245 : Int64) * (M.2.1 78 0)) + (12345 : Int64)) - (((1103515245 : Int64) * (M.2.1 78 0)) + (12345 : Int64)) / (2147483648 : Int64) * (2147483648 : Int64))).2.1 78 0) / (65536 : Int64)) / x1.toInt64 * x1.toInt64).toInt32, ea_pL M 78 0 ((((1103515245 : Int64) * (M.2.1 78 0)) + (12345 : Int64)) - (((1103515245 : Int64) * (M.2.1 78 0)) + (12345 : Int64)) / (2147483648 : Int64) * (2147483648 : Int64)))))
def fX0_draw (x1 : Int32) (M : eM) : Option (Int32 × eM) := fX0_draw_0 x1 M
section SX0_draw
variable {p : Program} {l : Launch} {e : Env} {s : State} {m : MethodId} {args : Array Value} {below : List Frame} {meth : Method} {cd : Code} {E : eE} {ids : List Nat} {res : Int32 × eM}
set_option maxHeartbeats 4000000 in
set_option maxRecDepth 20000 in
theorem wX0_draw_0 (C : ea_C p s m args meth cd cX0_draw 2 (some .int) RX0) (hX : ea_X ids) : ∀ (x1 : Int32) (M : eM) (H : Heap) (locs : List Loc) (ls : Array Slot), fX0_draw_0 x1 M = some res → ea_w E ids M s H locs → lv_has ls 2 [(0, .ref (E.1 78)), (1, .int x1)] → W p l e (ea_rm 0 0) s m args below meth cd H locs 0 0 (MQ below (ea_Qi E ids res) args s 0 0 (ea_Ad E ids)) (F0 m 0 ls []) := by
  intro x1 M H locs ls hf  hw hl
  replace hf := (fX0_draw_0.eq_1 ..).symm.trans hf
  refine lv_aload_n C.1 C.2.1 dX0_draw_0 rfl (lv_at hl 0 rfl) ?_
  refine lv_ldc2 (v := (1103515245 : Int64)) C.1 C.2.1 C.2.2.2.1 (C.2.2.2.2.1 _ wk_RX0_7) dX0_draw_1 ?_
  refine lv_aload_n C.1 C.2.1 dX0_draw_4 rfl (lv_at hl 0 rfl) ?_
  refine gf_X0_9 C hw (hX 78 0 rfl) dX0_draw_5 ?_
  refine lv_lmul C.1 C.2.1 dX0_draw_8 ?_
  refine lv_ldc2 (v := (12345 : Int64)) C.1 C.2.1 C.2.2.2.1 (C.2.2.2.2.1 _ wk_RX0_15) dX0_draw_9 ?_
  refine lv_ladd C.1 C.2.1 dX0_draw_12 ?_
  refine lv_ldc2 (v := (2147483648 : Int64)) C.1 C.2.1 C.2.2.2.1 (C.2.2.2.2.1 _ wk_RX0_17) dX0_draw_13 ?_
  refine lv_lrem C.1 C.2.1 dX0_draw_16 (by decide) ?_
  refine pu_X0_9 C hw (hX 78 0 rfl) dX0_draw_17 (fun H locs hw => ?_)
  refine lv_iload_n C.1 C.2.1 dX0_draw_20 rfl (lv_at hl 1 rfl) ?_
  refine lv_if_le (tgt := 39) C.1 C.2.1 dX0_draw_21 (by decide) (fun hc1 => ?_) (fun hc1 => ?_)
  · replace hf := ea_if_t hc1 hf
    refine lv_iconst (v := 0) C.1 C.2.1 dX0_draw_39 (by decide) ?_
    exact ea_iret C hw hf dX0_draw_40
  · replace hf := ea_if_f hc1 hf
    refine lv_aload_n C.1 C.2.1 dX0_draw_24 rfl (lv_at hl 0 rfl) ?_
    refine gf_X0_9 C hw (hX 78 0 rfl) dX0_draw_25 ?_
    refine lv_ldc2 (v := (65536 : Int64)) C.1 C.2.1 C.2.2.2.1 (C.2.2.2.2.1 _ wk_RX0_19) dX0_draw_28 ?_
    refine lv_ldiv C.1 C.2.1 dX0_draw_31 (by decide) ?_
    refine lv_iload_n C.1 C.2.1 dX0_draw_32 rfl (lv_at hl 1 rfl) ?_
    refine lv_i2l C.1 C.2.1 dX0_draw_33 rfl ?_
    obtain ⟨hc2, hf⟩ := ea_ck_s hf
    refine lv_lrem C.1 C.2.1 dX0_draw_34 (ea_nzL_s hc2) ?_
    refine lv_l2i C.1 C.2.1 dX0_draw_35 rfl ?_
    refine lv_goto (tgt := 40) C.1 C.2.1 dX0_draw_36 (by decide) ?_
    exact ea_iret C hw hf dX0_draw_40
set_option maxHeartbeats 4000000 in
set_option maxRecDepth 20000 in
theorem mX0_draw {l : Launch} {E : eE} {ids : List Nat} (hX : ea_X ids) {x1 : Int32} {M : eM} {res : Int32 × eM} (hf : fX0_draw x1 M = some res) : ea_Mi l yX0_draw cX0_draw 2 (some .int) 0 0 E ids [.ref (E.1 78), .int x1] M res := by
  refine ea_goi (by decide) (Nat.le_of_ble_eq_true rfl) wc_X0_draw ?_
  intro p e s m below meth cd ls C hw hl
  exact wX0_draw_0 C hX _ _ _ _ _ hf hw hl
end SX0_draw

def fX10_isWithin_0 (x0 : Int32) (x1 : Int32) (x2 : Int32) (M : eM) : Option (Int32 × eM) := if x0 < x1 then (some ((0 : Int32), M)) else (if x2 < x0 then (some ((0 : Int32), M)) else (some ((1 : Int32), M)))
def fX10_isWithin (x0 : Int32) (x1 : Int32) (x2 : Int32) (M : eM) : Option (Int32 × eM) := fX10_isWithin_0 x0 x1 x2 M
section SX10_isWithin
variable {p : Program} {l : Launch} {e : Env} {s : State} {m : MethodId} {args : Array Value} {below : List Frame} {meth : Method} {cd : Code} {E : eE} {ids : List Nat} {res : Int32 × eM}
set_option maxHeartbeats 4000000 in
set_option maxRecDepth 20000 in
theorem wX10_isWithin_0 (C : ea_C p s m args meth cd cX10_isWithin 3 (some .boolean) RX10) (hX : ea_X ids) : ∀ (x0 : Int32) (x1 : Int32) (x2 : Int32) (M : eM) (H : Heap) (locs : List Loc) (ls : Array Slot), fX10_isWithin_0 x0 x1 x2 M = some res → ea_w E ids M s H locs → lv_has ls 3 [(0, .int x0), (1, .int x1), (2, .int x2)] → W p l e (ea_rm 0 0) s m args below meth cd H locs 0 0 (MQ below (ea_Qi E ids res) args s 0 0 (ea_Ad E ids)) (F0 m 0 ls []) := by
  intro x0 x1 x2 M H locs ls hf  hw hl
  replace hf := (fX10_isWithin_0.eq_1 ..).symm.trans hf
  refine lv_iload_n C.1 C.2.1 dX10_isWithin_0 rfl (lv_at hl 0 rfl) ?_
  refine lv_iload_n C.1 C.2.1 dX10_isWithin_1 rfl (lv_at hl 1 rfl) ?_
  refine lv_icmp_lt (tgt := 14) C.1 C.2.1 dX10_isWithin_2 (by decide) (fun hc1 => ?_) (fun hc1 => ?_)
  · replace hf := ea_if_t hc1 hf
    refine lv_iconst (v := 0) C.1 C.2.1 dX10_isWithin_14 (by decide) ?_
    exact ea_zret C hw (by decide) hf dX10_isWithin_15
  · replace hf := ea_if_f hc1 hf
    refine lv_iload_n C.1 C.2.1 dX10_isWithin_5 rfl (lv_at hl 0 rfl) ?_
    refine lv_iload_n C.1 C.2.1 dX10_isWithin_6 rfl (lv_at hl 2 rfl) ?_
    refine lv_icmp_gt (tgt := 14) C.1 C.2.1 dX10_isWithin_7 (by decide) (fun hc2 => ?_) (fun hc2 => ?_)
    · replace hf := ea_if_t hc2 hf
      refine lv_iconst (v := 0) C.1 C.2.1 dX10_isWithin_14 (by decide) ?_
      exact ea_zret C hw (by decide) hf dX10_isWithin_15
    · replace hf := ea_if_f hc2 hf
      refine lv_iconst (v := 1) C.1 C.2.1 dX10_isWithin_10 (by decide) ?_
      refine lv_goto (tgt := 15) C.1 C.2.1 dX10_isWithin_11 (by decide) ?_
      exact ea_zret C hw (by decide) hf dX10_isWithin_15
set_option maxHeartbeats 4000000 in
set_option maxRecDepth 20000 in
theorem mX10_isWithin {l : Launch} {E : eE} {ids : List Nat} (hX : ea_X ids) {x0 : Int32} {x1 : Int32} {x2 : Int32} {M : eM} {res : Int32 × eM} (hf : fX10_isWithin x0 x1 x2 M = some res) : ea_Mi l yX10_isWithin cX10_isWithin 3 (some .boolean) 0 0 E ids [.int x0, .int x1, .int x2] M res := by
  refine ea_goi (by decide) (Nat.le_of_ble_eq_true rfl) wc_X10_isWithin ?_
  intro p e s m below meth cd ls C hw hl
  exact wX10_isWithin_0 C hX _ _ _ _ _ _ _ hf hw hl
end SX10_isWithin

def fX10_areShades_0 (x0 : Int32) (x1 : Int32) (x2 : Int32) (M : eM) : Option (Int32 × eM) := ea_ci (fX10_isWithin x0 (0 : Int32) (99 : Int32) M) (fun r2 M3 => if r2 = 0 then (some ((0 : Int32), M3)) else (ea_ci (fX10_isWithin x1 (0 : Int32) (99 : Int32) M3) (fun r6 M7 => if r6 = 0 then (some ((0 : Int32), M7)) else (ea_ci (fX10_isWithin x2 (0 : Int32) (99 : Int32) M7) (fun r10 M11 => if r10 = 0 then (some ((0 : Int32), M11)) else (some ((1 : Int32), M11)))))))
def fX10_areShades (x0 : Int32) (x1 : Int32) (x2 : Int32) (M : eM) : Option (Int32 × eM) := fX10_areShades_0 x0 x1 x2 M
section SX10_areShades
variable {p : Program} {l : Launch} {e : Env} {s : State} {m : MethodId} {args : Array Value} {below : List Frame} {meth : Method} {cd : Code} {E : eE} {ids : List Nat} {res : Int32 × eM}
set_option maxHeartbeats 4000000 in
set_option maxRecDepth 20000 in
theorem wX10_areShades_0 (C : ea_C p s m args meth cd cX10_areShades 3 (some .boolean) RX10) (hX : ea_X ids) : ∀ (x0 : Int32) (x1 : Int32) (x2 : Int32) (M : eM) (H : Heap) (locs : List Loc) (ls : Array Slot), fX10_areShades_0 x0 x1 x2 M = some res → ea_w E ids M s H locs → lv_has ls 3 [(0, .int x0), (1, .int x1), (2, .int x2)] → W p l e (ea_rm 1 22) s m args below meth cd H locs 0 0 (MQ below (ea_Qi E ids res) args s 0 0 (ea_Ad E ids)) (F0 m 0 ls []) := by
  intro x0 x1 x2 M H locs ls hf  hw hl
  replace hf := (fX10_areShades_0.eq_1 ..).symm.trans hf
  refine lv_iload_n C.1 C.2.1 dX10_areShades_0 rfl (lv_at hl 0 rfl) ?_
  refine lv_iconst (v := 0) C.1 C.2.1 dX10_areShades_1 (by decide) ?_
  refine lv_bipush (v := 99) C.1 C.2.1 dX10_areShades_2 (by decide) ?_
  obtain ⟨r2, M3, he1, hf⟩ := ea_ci_s hf
  refine ea_runi2 hw (cl_X10_133 C hw (As := [.int x0, .int (0 : Int32), .int (99 : Int32)]) (rest := []) (mX10_isWithin (l := l) (E := E) (ids := ids) hX he1) (by decide) rfl hl.1 rfl (Nat.le_of_ble_eq_true rfl) dX10_areShades_4 ⟨Nat.le_refl _, Nat.le_refl _⟩) (fun H locs hw => ?_)
  refine lv_if_eq (tgt := 34) C.1 C.2.1 dX10_areShades_7 (by decide) (fun hc4 => ?_) (fun hc4 => ?_)
  · replace hf := ea_if_t hc4 hf
    refine lv_iconst (v := 0) C.1 C.2.1 dX10_areShades_34 (by decide) ?_
    exact ea_zret C hw (by decide) hf dX10_areShades_35
  · replace hf := ea_if_f hc4 hf
    refine lv_iload_n C.1 C.2.1 dX10_areShades_10 rfl (lv_at hl 1 rfl) ?_
    refine lv_iconst (v := 0) C.1 C.2.1 dX10_areShades_11 (by decide) ?_
    refine lv_bipush (v := 99) C.1 C.2.1 dX10_areShades_12 (by decide) ?_
    obtain ⟨r6, M7, he5, hf⟩ := ea_ci_s hf
    refine ea_runi2 hw (cl_X10_133 C hw (As := [.int x1, .int (0 : Int32), .int (99 : Int32)]) (rest := []) (mX10_isWithin (l := l) (E := E) (ids := ids) hX he5) (by decide) rfl hl.1 rfl (Nat.le_of_ble_eq_true rfl) dX10_areShades_14 ⟨Nat.le_refl _, Nat.le_refl _⟩) (fun H locs hw => ?_)
    refine lv_if_eq (tgt := 34) C.1 C.2.1 dX10_areShades_17 (by decide) (fun hc8 => ?_) (fun hc8 => ?_)
    · replace hf := ea_if_t hc8 hf
      refine lv_iconst (v := 0) C.1 C.2.1 dX10_areShades_34 (by decide) ?_
      exact ea_zret C hw (by decide) hf dX10_areShades_35
    · replace hf := ea_if_f hc8 hf
      refine lv_iload_n C.1 C.2.1 dX10_areShades_20 rfl (lv_at hl 2 rfl) ?_
      refine lv_iconst (v := 0) C.1 C.2.1 dX10_areShades_21 (by decide) ?_
      refine lv_bipush (v := 99) C.1 C.2.1 dX10_areShades_22 (by decide) ?_
      obtain ⟨r10, M11, he9, hf⟩ := ea_ci_s hf
      refine ea_runi2 hw (cl_X10_133 C hw (As := [.int x2, .int (0 : Int32), .int (99 : Int32)]) (rest := []) (mX10_isWithin (l := l) (E := E) (ids := ids) hX he9) (by decide) rfl hl.1 rfl (Nat.le_of_ble_eq_true rfl) dX10_areShades_24 ⟨Nat.le_refl _, Nat.le_refl _⟩) (fun H locs hw => ?_)
      refine lv_if_eq (tgt := 34) C.1 C.2.1 dX10_areShades_27 (by decide) (fun hc12 => ?_) (fun hc12 => ?_)
      · replace hf := ea_if_t hc12 hf
        refine lv_iconst (v := 0) C.1 C.2.1 dX10_areShades_34 (by decide) ?_
        exact ea_zret C hw (by decide) hf dX10_areShades_35
      · replace hf := ea_if_f hc12 hf
        refine lv_iconst (v := 1) C.1 C.2.1 dX10_areShades_30 (by decide) ?_
        refine lv_goto (tgt := 35) C.1 C.2.1 dX10_areShades_31 (by decide) ?_
        exact ea_zret C hw (by decide) hf dX10_areShades_35
set_option maxHeartbeats 4000000 in
set_option maxRecDepth 20000 in
theorem mX10_areShades {l : Launch} {E : eE} {ids : List Nat} (hX : ea_X ids) {x0 : Int32} {x1 : Int32} {x2 : Int32} {M : eM} {res : Int32 × eM} (hf : fX10_areShades x0 x1 x2 M = some res) : ea_Mi l yX10_areShades cX10_areShades 3 (some .boolean) 1 22 E ids [.int x0, .int x1, .int x2] M res := by
  refine ea_goi (by decide) (Nat.le_of_ble_eq_true rfl) wc_X10_areShades ?_
  intro p e s m below meth cd ls C hw hl
  exact wX10_areShades_0 C hX _ _ _ _ _ _ _ hf hw hl
end SX10_areShades

def fX1_cells_0 (a0 : Nat) (M : eM) : Option (Int32 × eM) := some ((M.1 a0 0) * (M.1 a0 1), M)
def fX1_cells (a0 : Nat) (M : eM) : Option (Int32 × eM) := fX1_cells_0 a0 M
section SX1_cells
variable {p : Program} {l : Launch} {e : Env} {s : State} {m : MethodId} {args : Array Value} {below : List Frame} {meth : Method} {cd : Code} {E : eE} {ids : List Nat} {res : Int32 × eM} {a0 : Nat}
set_option maxHeartbeats 4000000 in
set_option maxRecDepth 20000 in
theorem wX1_cells_0 (C : ea_C p s m args meth cd cX1_cells 1 (some .int) RX1) (hX : ea_X ids) (ho0 : ea_ok ids a0 1) : ∀  (M : eM) (H : Heap) (locs : List Loc) (ls : Array Slot), fX1_cells_0 a0 M = some res → ea_w E ids M s H locs → lv_has ls 1 [(0, .ref (E.1 a0))] → W p l e (ea_rm 0 0) s m args below meth cd H locs 0 0 (MQ below (ea_Qi E ids res) args s 0 0 (ea_Ad E ids)) (F0 m 0 ls []) := by
  intro M H locs ls hf  hw hl
  replace hf := (fX1_cells_0.eq_1 ..).symm.trans hf
  refine lv_aload_n C.1 C.2.1 dX1_cells_0 rfl (lv_at hl 0 rfl) ?_
  refine gf_X1_43 C hw ho0 dX1_cells_1 ?_
  refine lv_aload_n C.1 C.2.1 dX1_cells_4 rfl (lv_at hl 0 rfl) ?_
  refine gf_X1_47 C hw ho0 dX1_cells_5 ?_
  refine lv_imul C.1 C.2.1 dX1_cells_8 ?_
  exact ea_iret C hw hf dX1_cells_9
set_option maxHeartbeats 4000000 in
set_option maxRecDepth 20000 in
theorem mX1_cells {l : Launch} {E : eE} {ids : List Nat} (hX : ea_X ids) {a0 : Nat} (ho0 : ea_ok ids a0 1) {M : eM} {res : Int32 × eM} (hf : fX1_cells a0 M = some res) : ea_Mi l yX1_cells cX1_cells 1 (some .int) 0 0 E ids [.ref (E.1 a0)] M res := by
  refine ea_goi (by decide) (Nat.le_of_ble_eq_true rfl) wc_X1_cells ?_
  intro p e s m below meth cd ls C hw hl
  exact wX1_cells_0 C hX ho0  _ _ _ _ hf hw hl
end SX1_cells

def fX10_isCell_0 (x1 : Int32) (M : eM) : Option (Int32 × eM) := ea_ck (ea_is (M.2.2 4 0) 1) (ea_ci (fX1_cells (M.2.2 4 0) M) (fun r3 M4 => ea_ci (fX10_isWithin x1 (0 : Int32) (r3 - (1 : Int32)) M4) (fun r6 M7 => ea_ck (ea_01 r6) (some (r6, M7)))))
def fX10_isCell (x1 : Int32) (M : eM) : Option (Int32 × eM) := fX10_isCell_0 x1 M
section SX10_isCell
variable {p : Program} {l : Launch} {e : Env} {s : State} {m : MethodId} {args : Array Value} {below : List Frame} {meth : Method} {cd : Code} {E : eE} {ids : List Nat} {res : Int32 × eM}
set_option maxHeartbeats 4000000 in
set_option maxRecDepth 20000 in
theorem wX10_isCell_0 (C : ea_C p s m args meth cd cX10_isCell 2 (some .boolean) RX10) (hX : ea_X ids) : ∀ (x1 : Int32) (M : eM) (H : Heap) (locs : List Loc) (ls : Array Slot), fX10_isCell_0 x1 M = some res → ea_w E ids M s H locs → lv_has ls 2 [(0, .ref (E.1 0)), (1, .int x1)] → W p l e (ea_rm 1 22) s m args below meth cd H locs 0 0 (MQ below (ea_Qi E ids res) args s 0 0 (ea_Ad E ids)) (F0 m 0 ls []) := by
  intro x1 M H locs ls hf  hw hl
  replace hf := (fX10_isCell_0.eq_1 ..).symm.trans hf
  refine lv_iload_n C.1 C.2.1 dX10_isCell_0 rfl (lv_at hl 1 rfl) ?_
  refine lv_iconst (v := 0) C.1 C.2.1 dX10_isCell_1 (by decide) ?_
  refine lv_aload_n C.1 C.2.1 dX10_isCell_2 rfl (lv_at hl 0 rfl) ?_
  refine gf_X10_24 C hw (hX 0 10 rfl) dX10_isCell_3 ?_
  refine gf_X10_110 C hw (hX 4 9 rfl) dX10_isCell_6 ?_
  obtain ⟨hc1, hf⟩ := ea_ck_s hf
  obtain ⟨r3, M4, he2, hf⟩ := ea_ci_s hf
  refine ea_runi2 hw (cl_X10_296 C hw (ea_dyn hX hc1) (As := []) (rest := [.int (0 : Int32), .int x1]) (mX1_cells (l := l) (E := E) (ids := ids) hX (ea_dyn hX hc1) he2) (by decide) rfl hl.1 rfl (Nat.le_of_ble_eq_true rfl) dX10_isCell_9 ⟨Nat.le_refl _, Nat.le_refl _⟩) (fun H locs hw => ?_)
  refine lv_iconst (v := 1) C.1 C.2.1 dX10_isCell_12 (by decide) ?_
  refine lv_isub C.1 C.2.1 dX10_isCell_13 ?_
  obtain ⟨r6, M7, he5, hf⟩ := ea_ci_s hf
  refine ea_runi2 hw (cl_X10_133 C hw (As := [.int x1, .int (0 : Int32), .int (r3 - (1 : Int32))]) (rest := []) (mX10_isWithin (l := l) (E := E) (ids := ids) hX he5) (by decide) rfl hl.1 rfl (Nat.le_of_ble_eq_true rfl) dX10_isCell_14 ⟨Nat.le_refl _, Nat.le_refl _⟩) (fun H locs hw => ?_)
  obtain ⟨hc8, hf⟩ := ea_ck_s hf
  exact ea_zret C hw (ea_01_s hc8) hf dX10_isCell_17
set_option maxHeartbeats 4000000 in
set_option maxRecDepth 20000 in
theorem mX10_isCell {l : Launch} {E : eE} {ids : List Nat} (hX : ea_X ids) {x1 : Int32} {M : eM} {res : Int32 × eM} (hf : fX10_isCell x1 M = some res) : ea_Mi l yX10_isCell cX10_isCell 2 (some .boolean) 1 22 E ids [.ref (E.1 0), .int x1] M res := by
  refine ea_goi (by decide) (Nat.le_of_ble_eq_true rfl) wc_X10_isCell ?_
  intro p e s m below meth cd ls C hw hl
  exact wX10_isCell_0 C hX _ _ _ _ _ hf hw hl
end SX10_isCell

def fX10_mayTell_0 (x1 : Int32) (M : eM) : Option (Int32 × eM) := ea_ci (fX10_isWithin x1 (M.1 30 6) (999 : Int32) M) (fun r2 M3 => ea_ck (ea_01 r2) (some (r2, M3)))
def fX10_mayTell (x1 : Int32) (M : eM) : Option (Int32 × eM) := fX10_mayTell_0 x1 M
section SX10_mayTell
variable {p : Program} {l : Launch} {e : Env} {s : State} {m : MethodId} {args : Array Value} {below : List Frame} {meth : Method} {cd : Code} {E : eE} {ids : List Nat} {res : Int32 × eM}
set_option maxHeartbeats 4000000 in
set_option maxRecDepth 20000 in
theorem wX10_mayTell_0 (C : ea_C p s m args meth cd cX10_mayTell 2 (some .boolean) RX10) (hX : ea_X ids) : ∀ (x1 : Int32) (M : eM) (H : Heap) (locs : List Loc) (ls : Array Slot), fX10_mayTell_0 x1 M = some res → ea_w E ids M s H locs → lv_has ls 2 [(0, .ref (E.1 0)), (1, .int x1)] → W p l e (ea_rm 1 22) s m args below meth cd H locs 0 0 (MQ below (ea_Qi E ids res) args s 0 0 (ea_Ad E ids)) (F0 m 0 ls []) := by
  intro x1 M H locs ls hf  hw hl
  replace hf := (fX10_mayTell_0.eq_1 ..).symm.trans hf
  refine lv_iload_n C.1 C.2.1 dX10_mayTell_0 rfl (lv_at hl 1 rfl) ?_
  refine lv_aload_n C.1 C.2.1 dX10_mayTell_1 rfl (lv_at hl 0 rfl) ?_
  refine gf_X10_44 C hw (hX 0 10 rfl) dX10_mayTell_2 ?_
  refine gf_X10_338 C hw (hX 30 8 rfl) dX10_mayTell_5 ?_
  refine lv_sipush (v := 999) C.1 C.2.1 dX10_mayTell_8 (by decide) ?_
  obtain ⟨r2, M3, he1, hf⟩ := ea_ci_s hf
  refine ea_runi2 hw (cl_X10_133 C hw (As := [.int x1, .int (M.1 30 6), .int (999 : Int32)]) (rest := []) (mX10_isWithin (l := l) (E := E) (ids := ids) hX he1) (by decide) rfl hl.1 rfl (Nat.le_of_ble_eq_true rfl) dX10_mayTell_11 ⟨Nat.le_refl _, Nat.le_refl _⟩) (fun H locs hw => ?_)
  obtain ⟨hc4, hf⟩ := ea_ck_s hf
  exact ea_zret C hw (ea_01_s hc4) hf dX10_mayTell_14
set_option maxHeartbeats 4000000 in
set_option maxRecDepth 20000 in
theorem mX10_mayTell {l : Launch} {E : eE} {ids : List Nat} (hX : ea_X ids) {x1 : Int32} {M : eM} {res : Int32 × eM} (hf : fX10_mayTell x1 M = some res) : ea_Mi l yX10_mayTell cX10_mayTell 2 (some .boolean) 1 22 E ids [.ref (E.1 0), .int x1] M res := by
  refine ea_goi (by decide) (Nat.le_of_ble_eq_true rfl) wc_X10_mayTell ?_
  intro p e s m below meth cd ls C hw hl
  exact wX10_mayTell_0 C hX _ _ _ _ _ hf hw hl
end SX10_mayTell

def fX8_putEntry_0 (a0 : Nat) (a1 : Nat) (x2 : Int32) (x3 : Int32) (x4 : Int32) (x5 : Int32) (M : eM) : Option (eM) := ea_ck (ea_ix x2 (ea_len a1)) (ea_ck (ea_ix (x2 + (1 : Int32)) (ea_len a1)) (ea_ck (ea_ix (x2 + (2 : Int32)) (ea_len a1)) (some (ea_pI (ea_pI (ea_pI (ea_pI M a1 (x2.toNatClampNeg) x3) a1 ((x2 + (1 : Int32)).toNatClampNeg) x4) a1 ((x2 + (2 : Int32)).toNatClampNeg) x5) a0 6 x3))))
def fX8_putEntry (a0 : Nat) (a1 : Nat) (x2 : Int32) (x3 : Int32) (x4 : Int32) (x5 : Int32) (M : eM) : Option (eM) := fX8_putEntry_0 a0 a1 x2 x3 x4 x5 M
section SX8_putEntry
variable {p : Program} {l : Launch} {e : Env} {s : State} {m : MethodId} {args : Array Value} {below : List Frame} {meth : Method} {cd : Code} {E : eE} {ids : List Nat} {res : eM} {a0 a1 : Nat}
set_option maxHeartbeats 4000000 in
set_option maxRecDepth 20000 in
theorem wX8_putEntry_0 (C : ea_C p s m args meth cd cX8_putEntry 6 none RX8) (hX : ea_X ids) (ho0 : ea_ok ids a0 8) (ho1 : ea_ok ids a1 20) : ∀ (x2 : Int32) (x3 : Int32) (x4 : Int32) (x5 : Int32) (M : eM) (H : Heap) (locs : List Loc) (ls : Array Slot), fX8_putEntry_0 a0 a1 x2 x3 x4 x5 M = some res → ea_w E ids M s H locs → lv_has ls 6 [(0, .ref (E.1 a0)), (1, .ref (E.1 a1)), (2, .int x2), (3, .int x3), (4, .int x4), (5, .int x5)] → W p l e (ea_rm 0 0) s m args below meth cd H locs 0 0 (MQ below (ea_Qv E ids res) args s 0 0 (ea_Ad E ids)) (F0 m 0 ls []) := by
  intro x2 x3 x4 x5 M H locs ls hf  hw hl
  replace hf := (fX8_putEntry_0.eq_1 ..).symm.trans hf
  refine lv_aload_n C.1 C.2.1 dX8_putEntry_0 rfl (lv_at hl 1 rfl) ?_
  refine lv_iload_n C.1 C.2.1 dX8_putEntry_1 rfl (lv_at hl 2 rfl) ?_
  refine lv_iload_n C.1 C.2.1 dX8_putEntry_2 rfl (lv_at hl 3 rfl) ?_
  obtain ⟨hc1, hf⟩ := ea_ck_s hf
  refine ea_iast C hw ho1 hc1 dX8_putEntry_3 (fun H locs hw => ?_)
  refine lv_aload_n C.1 C.2.1 dX8_putEntry_4 rfl (lv_at hl 1 rfl) ?_
  refine lv_iload_n C.1 C.2.1 dX8_putEntry_5 rfl (lv_at hl 2 rfl) ?_
  refine lv_iconst (v := 1) C.1 C.2.1 dX8_putEntry_6 (by decide) ?_
  refine lv_iadd C.1 C.2.1 dX8_putEntry_7 ?_
  refine lv_iload C.1 C.2.1 dX8_putEntry_8 (lv_at hl 4 rfl) ?_
  obtain ⟨hc2, hf⟩ := ea_ck_s hf
  refine ea_iast C hw ho1 hc2 dX8_putEntry_10 (fun H locs hw => ?_)
  refine lv_aload_n C.1 C.2.1 dX8_putEntry_11 rfl (lv_at hl 1 rfl) ?_
  refine lv_iload_n C.1 C.2.1 dX8_putEntry_12 rfl (lv_at hl 2 rfl) ?_
  refine lv_iconst (v := 2) C.1 C.2.1 dX8_putEntry_13 (by decide) ?_
  refine lv_iadd C.1 C.2.1 dX8_putEntry_14 ?_
  refine lv_iload C.1 C.2.1 dX8_putEntry_15 (lv_at hl 5 rfl) ?_
  obtain ⟨hc3, hf⟩ := ea_ck_s hf
  refine ea_iast C hw ho1 hc3 dX8_putEntry_17 (fun H locs hw => ?_)
  refine lv_aload_n C.1 C.2.1 dX8_putEntry_18 rfl (lv_at hl 0 rfl) ?_
  refine lv_iload_n C.1 C.2.1 dX8_putEntry_19 rfl (lv_at hl 3 rfl) ?_
  refine pu_X8_31 C hw ho0 dX8_putEntry_20 (fun H locs hw => ?_)
  exact ea_vret C hw hf dX8_putEntry_23
set_option maxHeartbeats 4000000 in
set_option maxRecDepth 20000 in
theorem mX8_putEntry {l : Launch} {E : eE} {ids : List Nat} (hX : ea_X ids) {a0 : Nat} {a1 : Nat} {x2 : Int32} {x3 : Int32} {x4 : Int32} {x5 : Int32} (ho0 : ea_ok ids a0 8) (ho1 : ea_ok ids a1 20) {M : eM} {res : eM} (hf : fX8_putEntry a0 a1 x2 x3 x4 x5 M = some res) : ea_Mv l yX8_putEntry cX8_putEntry 6 0 0 E ids [.ref (E.1 a0), .ref (E.1 a1), .int x2, .int x3, .int x4, .int x5] M res := by
  refine ea_gov (by decide) (Nat.le_of_ble_eq_true rfl) wc_X8_putEntry ?_
  intro p e s m below meth cd ls C hw hl
  exact wX8_putEntry_0 C hX ho0 ho1 _ _ _ _ _ _ _ _ hf hw hl
end SX8_putEntry

def fX8_putShades_0 (a0 : Nat) (x1 : Int32) (x2 : Int32) (x3 : Int32) (x4 : Int32) (M : eM) : Option (eM) := ea_ck (ea_ix (x1 + (3 : Int32)) (ea_len a0)) (ea_ck (ea_ix (x1 + (4 : Int32)) (ea_len a0)) (ea_ck (ea_ix (x1 + (5 : Int32)) (ea_len a0)) (some (ea_pI (ea_pI (ea_pI M a0 ((x1 + (3 : Int32)).toNatClampNeg) x2) a0 ((x1 + (4 : Int32)).toNatClampNeg) x3) a0 ((x1 + (5 : Int32)).toNatClampNeg) x4))))
def fX8_putShades (a0 : Nat) (x1 : Int32) (x2 : Int32) (x3 : Int32) (x4 : Int32) (M : eM) : Option (eM) := fX8_putShades_0 a0 x1 x2 x3 x4 M
section SX8_putShades
variable {p : Program} {l : Launch} {e : Env} {s : State} {m : MethodId} {args : Array Value} {below : List Frame} {meth : Method} {cd : Code} {E : eE} {ids : List Nat} {res : eM} {a0 : Nat}
set_option maxHeartbeats 4000000 in
set_option maxRecDepth 20000 in
theorem wX8_putShades_0 (C : ea_C p s m args meth cd cX8_putShades 5 none RX8) (hX : ea_X ids) (ho0 : ea_ok ids a0 20) : ∀ (x1 : Int32) (x2 : Int32) (x3 : Int32) (x4 : Int32) (M : eM) (H : Heap) (locs : List Loc) (ls : Array Slot), fX8_putShades_0 a0 x1 x2 x3 x4 M = some res → ea_w E ids M s H locs → lv_has ls 5 [(0, .ref (E.1 a0)), (1, .int x1), (2, .int x2), (3, .int x3), (4, .int x4)] → W p l e (ea_rm 0 0) s m args below meth cd H locs 0 0 (MQ below (ea_Qv E ids res) args s 0 0 (ea_Ad E ids)) (F0 m 0 ls []) := by
  intro x1 x2 x3 x4 M H locs ls hf  hw hl
  replace hf := (fX8_putShades_0.eq_1 ..).symm.trans hf
  refine lv_aload_n C.1 C.2.1 dX8_putShades_0 rfl (lv_at hl 0 rfl) ?_
  refine lv_iload_n C.1 C.2.1 dX8_putShades_1 rfl (lv_at hl 1 rfl) ?_
  refine lv_iconst (v := 3) C.1 C.2.1 dX8_putShades_2 (by decide) ?_
  refine lv_iadd C.1 C.2.1 dX8_putShades_3 ?_
  refine lv_iload_n C.1 C.2.1 dX8_putShades_4 rfl (lv_at hl 2 rfl) ?_
  obtain ⟨hc1, hf⟩ := ea_ck_s hf
  refine ea_iast C hw ho0 hc1 dX8_putShades_5 (fun H locs hw => ?_)
  refine lv_aload_n C.1 C.2.1 dX8_putShades_6 rfl (lv_at hl 0 rfl) ?_
  refine lv_iload_n C.1 C.2.1 dX8_putShades_7 rfl (lv_at hl 1 rfl) ?_
  refine lv_iconst (v := 4) C.1 C.2.1 dX8_putShades_8 (by decide) ?_
  refine lv_iadd C.1 C.2.1 dX8_putShades_9 ?_
  refine lv_iload_n C.1 C.2.1 dX8_putShades_10 rfl (lv_at hl 3 rfl) ?_
  obtain ⟨hc2, hf⟩ := ea_ck_s hf
  refine ea_iast C hw ho0 hc2 dX8_putShades_11 (fun H locs hw => ?_)
  refine lv_aload_n C.1 C.2.1 dX8_putShades_12 rfl (lv_at hl 0 rfl) ?_
  refine lv_iload_n C.1 C.2.1 dX8_putShades_13 rfl (lv_at hl 1 rfl) ?_
  refine lv_iconst (v := 5) C.1 C.2.1 dX8_putShades_14 (by decide) ?_
  refine lv_iadd C.1 C.2.1 dX8_putShades_15 ?_
  refine lv_iload C.1 C.2.1 dX8_putShades_16 (lv_at hl 4 rfl) ?_
  obtain ⟨hc3, hf⟩ := ea_ck_s hf
  refine ea_iast C hw ho0 hc3 dX8_putShades_18 (fun H locs hw => ?_)
  exact ea_vret C hw hf dX8_putShades_19
set_option maxHeartbeats 4000000 in
set_option maxRecDepth 20000 in
theorem mX8_putShades {l : Launch} {E : eE} {ids : List Nat} (hX : ea_X ids) {a0 : Nat} {x1 : Int32} {x2 : Int32} {x3 : Int32} {x4 : Int32} (ho0 : ea_ok ids a0 20) {M : eM} {res : eM} (hf : fX8_putShades a0 x1 x2 x3 x4 M = some res) : ea_Mv l yX8_putShades cX8_putShades 5 0 0 E ids [.ref (E.1 a0), .int x1, .int x2, .int x3, .int x4] M res := by
  refine ea_gov (by decide) (Nat.le_of_ble_eq_true rfl) wc_X8_putShades ?_
  intro p e s m below meth cd ls C hw hl
  exact wX8_putShades_0 C hX ho0 _ _ _ _ _ _ _ _ hf hw hl
end SX8_putShades

def fX8_addTried_0 (a0 : Nat) (x1 : Int32) (x2 : Int32) (x3 : Int32) (x4 : Int32) (x5 : Int32) (x6 : Int32) (M : eM) : Option (eM) := if (20 : Int32) ≤ (M.1 a0 4) then (some M) else (ea_cv (fX8_putEntry a0 (a0 + 2) ((M.1 a0 4) * (6 : Int32)) x1 x2 x3 M) (fun M3 => ea_cv (fX8_putShades (a0 + 2) ((M3.1 a0 4) * (6 : Int32)) x4 x5 x6 M3) (fun M5 => some (ea_pI M5 a0 4 ((M5.1 a0 4) + (1 : Int32))))))
def fX8_addTried (a0 : Nat) (x1 : Int32) (x2 : Int32) (x3 : Int32) (x4 : Int32) (x5 : Int32) (x6 : Int32) (M : eM) : Option (eM) := fX8_addTried_0 a0 x1 x2 x3 x4 x5 x6 M
section SX8_addTried
variable {p : Program} {l : Launch} {e : Env} {s : State} {m : MethodId} {args : Array Value} {below : List Frame} {meth : Method} {cd : Code} {E : eE} {ids : List Nat} {res : eM} {a0 : Nat}
set_option maxHeartbeats 4000000 in
set_option maxRecDepth 20000 in
theorem wX8_addTried_0 (C : ea_C p s m args meth cd cX8_addTried 7 none RX8) (hX : ea_X ids) (ho0 : ea_ok ids a0 8) : ∀ (x1 : Int32) (x2 : Int32) (x3 : Int32) (x4 : Int32) (x5 : Int32) (x6 : Int32) (M : eM) (H : Heap) (locs : List Loc) (ls : Array Slot), fX8_addTried_0 a0 x1 x2 x3 x4 x5 x6 M = some res → ea_w E ids M s H locs → lv_has ls 7 [(0, .ref (E.1 a0)), (1, .int x1), (2, .int x2), (3, .int x3), (4, .int x4), (5, .int x5), (6, .int x6)] → W p l e (ea_rm 1 25) s m args below meth cd H locs 0 0 (MQ below (ea_Qv E ids res) args s 0 0 (ea_Ad E ids)) (F0 m 0 ls []) := by
  intro x1 x2 x3 x4 x5 x6 M H locs ls hf  hw hl
  replace hf := (fX8_addTried_0.eq_1 ..).symm.trans hf
  refine lv_aload_n C.1 C.2.1 dX8_addTried_0 rfl (lv_at hl 0 rfl) ?_
  refine gf_X8_25 C hw ho0 dX8_addTried_1 ?_
  refine lv_bipush (v := 20) C.1 C.2.1 dX8_addTried_4 (by decide) ?_
  refine lv_icmp_ge (tgt := 57) C.1 C.2.1 dX8_addTried_6 (by decide) (fun hc1 => ?_) (fun hc1 => ?_)
  · replace hf := ea_if_t hc1 hf
    exact ea_vret C hw hf dX8_addTried_57
  · replace hf := ea_if_f hc1 hf
    refine lv_aload_n C.1 C.2.1 dX8_addTried_9 rfl (lv_at hl 0 rfl) ?_
    refine lv_aload_n C.1 C.2.1 dX8_addTried_10 rfl (lv_at hl 0 rfl) ?_
    refine gf_X8_15 C hw ho0 dX8_addTried_11 ?_
    refine lv_aload_n C.1 C.2.1 dX8_addTried_14 rfl (lv_at hl 0 rfl) ?_
    refine gf_X8_25 C hw ho0 dX8_addTried_15 ?_
    refine lv_bipush (v := 6) C.1 C.2.1 dX8_addTried_18 (by decide) ?_
    refine lv_imul C.1 C.2.1 dX8_addTried_20 ?_
    refine lv_iload_n C.1 C.2.1 dX8_addTried_21 rfl (lv_at hl 1 rfl) ?_
    refine lv_iload_n C.1 C.2.1 dX8_addTried_22 rfl (lv_at hl 2 rfl) ?_
    refine lv_iload_n C.1 C.2.1 dX8_addTried_23 rfl (lv_at hl 3 rfl) ?_
    obtain ⟨M3, he2, hf⟩ := ea_cv_s hf
    refine ea_runv hw (cl_X8_40 C hw ho0 (As := [.ref (E.1 (a0 + 2)), .int ((M.1 a0 4) * (6 : Int32)), .int x1, .int x2, .int x3]) (rest := []) (mX8_putEntry (l := l) (E := E) (ids := ids) hX ho0 (ok_8_1 ho0) he2) (by decide) rfl hl.1 rfl (Nat.le_of_ble_eq_true rfl) dX8_addTried_24 ⟨Nat.le_refl _, Nat.le_refl _⟩) (fun H locs hw => ?_)
    refine lv_aload_n C.1 C.2.1 dX8_addTried_27 rfl (lv_at hl 0 rfl) ?_
    refine gf_X8_15 C hw ho0 dX8_addTried_28 ?_
    refine lv_aload_n C.1 C.2.1 dX8_addTried_31 rfl (lv_at hl 0 rfl) ?_
    refine gf_X8_25 C hw ho0 dX8_addTried_32 ?_
    refine lv_bipush (v := 6) C.1 C.2.1 dX8_addTried_35 (by decide) ?_
    refine lv_imul C.1 C.2.1 dX8_addTried_37 ?_
    refine lv_iload C.1 C.2.1 dX8_addTried_38 (lv_at hl 4 rfl) ?_
    refine lv_iload C.1 C.2.1 dX8_addTried_40 (lv_at hl 5 rfl) ?_
    refine lv_iload C.1 C.2.1 dX8_addTried_42 (lv_at hl 6 rfl) ?_
    obtain ⟨M5, he4, hf⟩ := ea_cv_s hf
    refine ea_runv hw (cl_X8_44 C hw (As := [.ref (E.1 (a0 + 2)), .int ((M3.1 a0 4) * (6 : Int32)), .int x4, .int x5, .int x6]) (rest := []) (mX8_putShades (l := l) (E := E) (ids := ids) hX (ok_8_1 ho0) he4) (by decide) rfl hl.1 rfl (Nat.le_of_ble_eq_true rfl) dX8_addTried_44 ⟨Nat.le_refl _, Nat.le_refl _⟩) (fun H locs hw => ?_)
    refine lv_aload_n C.1 C.2.1 dX8_addTried_47 rfl (lv_at hl 0 rfl) ?_
    refine lv_dup C.1 C.2.1 dX8_addTried_48 rfl ?_
    refine gf_X8_25 C hw ho0 dX8_addTried_49 ?_
    refine lv_iconst (v := 1) C.1 C.2.1 dX8_addTried_52 (by decide) ?_
    refine lv_iadd C.1 C.2.1 dX8_addTried_53 ?_
    refine pu_X8_25 C hw ho0 dX8_addTried_54 (fun H locs hw => ?_)
    exact ea_vret C hw hf dX8_addTried_57
set_option maxHeartbeats 4000000 in
set_option maxRecDepth 20000 in
theorem mX8_addTried {l : Launch} {E : eE} {ids : List Nat} (hX : ea_X ids) {a0 : Nat} {x1 : Int32} {x2 : Int32} {x3 : Int32} {x4 : Int32} {x5 : Int32} {x6 : Int32} (ho0 : ea_ok ids a0 8) {M : eM} {res : eM} (hf : fX8_addTried a0 x1 x2 x3 x4 x5 x6 M = some res) : ea_Mv l yX8_addTried cX8_addTried 7 1 25 E ids [.ref (E.1 a0), .int x1, .int x2, .int x3, .int x4, .int x5, .int x6] M res := by
  refine ea_gov (by decide) (Nat.le_of_ble_eq_true rfl) wc_X8_addTried ?_
  intro p e s m below meth cd ls C hw hl
  exact wX8_addTried_0 C hX ho0 _ _ _ _ _ _ _ _ _ _ hf hw hl
end SX8_addTried

def fX10_attempt_0 (x1 : Int32) (x2 : Int32) (x3 : Int32) (x4 : Int32) (x5 : Int32) (x6 : Int32) (M : eM) : Option (Int32 × eM) := ea_ci (fX10_mayTell x1 M) (fun r2 M3 => if r2 = 0 then (some ((-2 : Int32), M3)) else (ea_ci (fX10_isCell x2 M3) (fun r6 M7 => if r6 = 0 then (some ((-2 : Int32), M7)) else (ea_ci (fX10_isWithin x3 (1 : Int32) (999 : Int32) M7) (fun r10 M11 => if r10 = 0 then (some ((-2 : Int32), M11)) else (ea_ci (fX10_areShades x4 x5 x6 M11) (fun r14 M15 => if r14 = 0 then (some ((-2 : Int32), M15)) else (if (M15.1 30 4) < (20 : Int32) then (ea_cv (fX8_addTried 30 x1 x2 x3 x4 x5 x6 M15) (fun M19 => some ((M19.1 30 4) - (1 : Int32), M19))) else (some ((-3 : Int32), M15))))))))))
def fX10_attempt (x1 : Int32) (x2 : Int32) (x3 : Int32) (x4 : Int32) (x5 : Int32) (x6 : Int32) (M : eM) : Option (Int32 × eM) := fX10_attempt_0 x1 x2 x3 x4 x5 x6 M
section SX10_attempt
variable {p : Program} {l : Launch} {e : Env} {s : State} {m : MethodId} {args : Array Value} {below : List Frame} {meth : Method} {cd : Code} {E : eE} {ids : List Nat} {res : Int32 × eM}
set_option maxHeartbeats 4000000 in
set_option maxRecDepth 20000 in
theorem wX10_attempt_0 (C : ea_C p s m args meth cd cX10_attempt 7 (some .int) RX10) (hX : ea_X ids) : ∀ (x1 : Int32) (x2 : Int32) (x3 : Int32) (x4 : Int32) (x5 : Int32) (x6 : Int32) (M : eM) (H : Heap) (locs : List Loc) (ls : Array Slot), fX10_attempt_0 x1 x2 x3 x4 x5 x6 M = some res → ea_w E ids M s H locs → lv_has ls 7 [(0, .ref (E.1 0)), (1, .int x1), (2, .int x2), (3, .int x3), (4, .int x4), (5, .int x5), (6, .int x6)] → W p l e (ea_rm 2 51) s m args below meth cd H locs 0 0 (MQ below (ea_Qi E ids res) args s 0 0 (ea_Ad E ids)) (F0 m 0 ls []) := by
  intro x1 x2 x3 x4 x5 x6 M H locs ls hf  hw hl
  replace hf := (fX10_attempt_0.eq_1 ..).symm.trans hf
  refine lv_aload_n C.1 C.2.1 dX10_attempt_0 rfl (lv_at hl 0 rfl) ?_
  refine lv_iload_n C.1 C.2.1 dX10_attempt_1 rfl (lv_at hl 1 rfl) ?_
  obtain ⟨r2, M3, he1, hf⟩ := ea_ci_s hf
  refine ea_runi2 hw (cl_X10_193 C hw (hX 0 10 rfl) (As := [.int x1]) (rest := []) (mX10_mayTell (l := l) (E := E) (ids := ids) hX he1) (by decide) rfl hl.1 rfl (Nat.le_of_ble_eq_true rfl) dX10_attempt_2 ⟨Nat.le_refl _, Nat.le_refl _⟩) (fun H locs hw => ?_)
  refine lv_if_eq (tgt := 39) C.1 C.2.1 dX10_attempt_5 (by decide) (fun hc4 => ?_) (fun hc4 => ?_)
  · replace hf := ea_if_t hc4 hf
    refine lv_bipush (v := (-2 : Int32)) C.1 C.2.1 dX10_attempt_39 (by decide) ?_
    exact ea_iret C hw hf dX10_attempt_41
  · replace hf := ea_if_f hc4 hf
    refine lv_aload_n C.1 C.2.1 dX10_attempt_8 rfl (lv_at hl 0 rfl) ?_
    refine lv_iload_n C.1 C.2.1 dX10_attempt_9 rfl (lv_at hl 2 rfl) ?_
    obtain ⟨r6, M7, he5, hf⟩ := ea_ci_s hf
    refine ea_runi2 hw (cl_X10_196 C hw (hX 0 10 rfl) (As := [.int x2]) (rest := []) (mX10_isCell (l := l) (E := E) (ids := ids) hX he5) (by decide) rfl hl.1 rfl (Nat.le_of_ble_eq_true rfl) dX10_attempt_10 ⟨Nat.le_refl _, Nat.le_refl _⟩) (fun H locs hw => ?_)
    refine lv_if_eq (tgt := 39) C.1 C.2.1 dX10_attempt_13 (by decide) (fun hc8 => ?_) (fun hc8 => ?_)
    · replace hf := ea_if_t hc8 hf
      refine lv_bipush (v := (-2 : Int32)) C.1 C.2.1 dX10_attempt_39 (by decide) ?_
      exact ea_iret C hw hf dX10_attempt_41
    · replace hf := ea_if_f hc8 hf
      refine lv_iload_n C.1 C.2.1 dX10_attempt_16 rfl (lv_at hl 3 rfl) ?_
      refine lv_iconst (v := 1) C.1 C.2.1 dX10_attempt_17 (by decide) ?_
      refine lv_sipush (v := 999) C.1 C.2.1 dX10_attempt_18 (by decide) ?_
      obtain ⟨r10, M11, he9, hf⟩ := ea_ci_s hf
      refine ea_runi2 hw (cl_X10_133 C hw (As := [.int x3, .int (1 : Int32), .int (999 : Int32)]) (rest := []) (mX10_isWithin (l := l) (E := E) (ids := ids) hX he9) (by decide) rfl hl.1 rfl (Nat.le_of_ble_eq_true rfl) dX10_attempt_21 ⟨Nat.le_refl _, Nat.le_refl _⟩) (fun H locs hw => ?_)
      refine lv_if_eq (tgt := 39) C.1 C.2.1 dX10_attempt_24 (by decide) (fun hc12 => ?_) (fun hc12 => ?_)
      · replace hf := ea_if_t hc12 hf
        refine lv_bipush (v := (-2 : Int32)) C.1 C.2.1 dX10_attempt_39 (by decide) ?_
        exact ea_iret C hw hf dX10_attempt_41
      · replace hf := ea_if_f hc12 hf
        refine lv_iload C.1 C.2.1 dX10_attempt_27 (lv_at hl 4 rfl) ?_
        refine lv_iload C.1 C.2.1 dX10_attempt_29 (lv_at hl 5 rfl) ?_
        refine lv_iload C.1 C.2.1 dX10_attempt_31 (lv_at hl 6 rfl) ?_
        obtain ⟨r14, M15, he13, hf⟩ := ea_ci_s hf
        refine ea_runi2 hw (cl_X10_199 C hw (As := [.int x4, .int x5, .int x6]) (rest := []) (mX10_areShades (l := l) (E := E) (ids := ids) hX he13) (by decide) rfl hl.1 rfl (Nat.le_of_ble_eq_true rfl) dX10_attempt_33 ⟨Nat.le_refl _, Nat.le_refl _⟩) (fun H locs hw => ?_)
        refine lv_if_ne (tgt := 42) C.1 C.2.1 dX10_attempt_36 (by decide) (fun hc16 => ?_) (fun hc16 => ?_)
        · replace hf := ea_if_f hc16 hf
          refine lv_aload_n C.1 C.2.1 dX10_attempt_42 rfl (lv_at hl 0 rfl) ?_
          refine gf_X10_44 C hw (hX 0 10 rfl) dX10_attempt_43 ?_
          refine gf_X10_209 C hw (hX 30 8 rfl) dX10_attempt_46 ?_
          refine lv_bipush (v := 20) C.1 C.2.1 dX10_attempt_49 (by decide) ?_
          refine lv_icmp_lt (tgt := 57) C.1 C.2.1 dX10_attempt_51 (by decide) (fun hc17 => ?_) (fun hc17 => ?_)
          · replace hf := ea_if_t hc17 hf
            refine lv_aload_n C.1 C.2.1 dX10_attempt_57 rfl (lv_at hl 0 rfl) ?_
            refine gf_X10_44 C hw (hX 0 10 rfl) dX10_attempt_58 ?_
            refine lv_iload_n C.1 C.2.1 dX10_attempt_61 rfl (lv_at hl 1 rfl) ?_
            refine lv_iload_n C.1 C.2.1 dX10_attempt_62 rfl (lv_at hl 2 rfl) ?_
            refine lv_iload_n C.1 C.2.1 dX10_attempt_63 rfl (lv_at hl 3 rfl) ?_
            refine lv_iload C.1 C.2.1 dX10_attempt_64 (lv_at hl 4 rfl) ?_
            refine lv_iload C.1 C.2.1 dX10_attempt_66 (lv_at hl 5 rfl) ?_
            refine lv_iload C.1 C.2.1 dX10_attempt_68 (lv_at hl 6 rfl) ?_
            obtain ⟨M19, he18, hf⟩ := ea_cv_s hf
            refine ea_runv hw (cl_X10_212 C hw (hX 30 8 rfl) (As := [.int x1, .int x2, .int x3, .int x4, .int x5, .int x6]) (rest := []) (mX8_addTried (l := l) (E := E) (ids := ids) hX (hX 30 8 rfl) he18) (by decide) rfl hl.1 rfl (Nat.le_of_ble_eq_true rfl) dX10_attempt_70 ⟨Nat.le_refl _, Nat.le_refl _⟩) (fun H locs hw => ?_)
            refine lv_aload_n C.1 C.2.1 dX10_attempt_73 rfl (lv_at hl 0 rfl) ?_
            refine gf_X10_44 C hw (hX 0 10 rfl) dX10_attempt_74 ?_
            refine gf_X10_209 C hw (hX 30 8 rfl) dX10_attempt_77 ?_
            refine lv_iconst (v := 1) C.1 C.2.1 dX10_attempt_80 (by decide) ?_
            refine lv_isub C.1 C.2.1 dX10_attempt_81 ?_
            exact ea_iret C hw hf dX10_attempt_82
          · replace hf := ea_if_f hc17 hf
            refine lv_bipush (v := (-3 : Int32)) C.1 C.2.1 dX10_attempt_54 (by decide) ?_
            exact ea_iret C hw hf dX10_attempt_56
        · replace hf := ea_if_t hc16 hf
          refine lv_bipush (v := (-2 : Int32)) C.1 C.2.1 dX10_attempt_39 (by decide) ?_
          exact ea_iret C hw hf dX10_attempt_41
set_option maxHeartbeats 4000000 in
set_option maxRecDepth 20000 in
theorem mX10_attempt {l : Launch} {E : eE} {ids : List Nat} (hX : ea_X ids) {x1 : Int32} {x2 : Int32} {x3 : Int32} {x4 : Int32} {x5 : Int32} {x6 : Int32} {M : eM} {res : Int32 × eM} (hf : fX10_attempt x1 x2 x3 x4 x5 x6 M = some res) : ea_Mi l yX10_attempt cX10_attempt 7 (some .int) 2 51 E ids [.ref (E.1 0), .int x1, .int x2, .int x3, .int x4, .int x5, .int x6] M res := by
  refine ea_goi (by decide) (Nat.le_of_ble_eq_true rfl) wc_X10_attempt ?_
  intro p e s m below meth cd ls C hw hl
  exact wX10_attempt_0 C hX _ _ _ _ _ _ _ _ _ _ hf hw hl
end SX10_attempt

def fX10_isStory_0 (x1 : Int32) (M : eM) : Option (Int32 × eM) := ea_ck (ea_is (M.2.2 4 0) 1) (ea_ci (fX10_isWithin x1 (0 : Int32) ((M.1 (M.2.2 4 0) 11) - (1 : Int32)) M) (fun r3 M4 => ea_ck (ea_01 r3) (some (r3, M4))))
def fX10_isStory (x1 : Int32) (M : eM) : Option (Int32 × eM) := fX10_isStory_0 x1 M
section SX10_isStory
variable {p : Program} {l : Launch} {e : Env} {s : State} {m : MethodId} {args : Array Value} {below : List Frame} {meth : Method} {cd : Code} {E : eE} {ids : List Nat} {res : Int32 × eM}
set_option maxHeartbeats 4000000 in
set_option maxRecDepth 20000 in
theorem wX10_isStory_0 (C : ea_C p s m args meth cd cX10_isStory 2 (some .boolean) RX10) (hX : ea_X ids) : ∀ (x1 : Int32) (M : eM) (H : Heap) (locs : List Loc) (ls : Array Slot), fX10_isStory_0 x1 M = some res → ea_w E ids M s H locs → lv_has ls 2 [(0, .ref (E.1 0)), (1, .int x1)] → W p l e (ea_rm 1 22) s m args below meth cd H locs 0 0 (MQ below (ea_Qi E ids res) args s 0 0 (ea_Ad E ids)) (F0 m 0 ls []) := by
  intro x1 M H locs ls hf  hw hl
  replace hf := (fX10_isStory_0.eq_1 ..).symm.trans hf
  refine lv_iload_n C.1 C.2.1 dX10_isStory_0 rfl (lv_at hl 1 rfl) ?_
  refine lv_iconst (v := 0) C.1 C.2.1 dX10_isStory_1 (by decide) ?_
  refine lv_aload_n C.1 C.2.1 dX10_isStory_2 rfl (lv_at hl 0 rfl) ?_
  refine gf_X10_24 C hw (hX 0 10 rfl) dX10_isStory_3 ?_
  refine gf_X10_110 C hw (hX 4 9 rfl) dX10_isStory_6 ?_
  obtain ⟨hc1, hf⟩ := ea_ck_s hf
  refine gf_X10_146 C hw (ea_dyn hX hc1) dX10_isStory_9 ?_
  refine lv_iconst (v := 1) C.1 C.2.1 dX10_isStory_12 (by decide) ?_
  refine lv_isub C.1 C.2.1 dX10_isStory_13 ?_
  obtain ⟨r3, M4, he2, hf⟩ := ea_ci_s hf
  refine ea_runi2 hw (cl_X10_133 C hw (As := [.int x1, .int (0 : Int32), .int ((M.1 (M.2.2 4 0) 11) - (1 : Int32))]) (rest := []) (mX10_isWithin (l := l) (E := E) (ids := ids) hX he2) (by decide) rfl hl.1 rfl (Nat.le_of_ble_eq_true rfl) dX10_isStory_14 ⟨Nat.le_refl _, Nat.le_refl _⟩) (fun H locs hw => ?_)
  obtain ⟨hc5, hf⟩ := ea_ck_s hf
  exact ea_zret C hw (ea_01_s hc5) hf dX10_isStory_17
set_option maxHeartbeats 4000000 in
set_option maxRecDepth 20000 in
theorem mX10_isStory {l : Launch} {E : eE} {ids : List Nat} (hX : ea_X ids) {x1 : Int32} {M : eM} {res : Int32 × eM} (hf : fX10_isStory x1 M = some res) : ea_Mi l yX10_isStory cX10_isStory 2 (some .boolean) 1 22 E ids [.ref (E.1 0), .int x1] M res := by
  refine ea_goi (by decide) (Nat.le_of_ble_eq_true rfl) wc_X10_isStory ?_
  intro p e s m below meth cd ls C hw hl
  exact wX10_isStory_0 C hX _ _ _ _ _ hf hw hl
end SX10_isStory

def fX1_halved_11 (x0 : Int32) (t0 : Int32) (M : eM) : Option (Int32 × eM) := if t0 ≤ (31 : Int32) then (some (x0 >>> (t0 &&& 31), M)) else (some ((0 : Int32), M))
def fX1_halved_0 (x0 : Int32) (x1 : Int32) (x2 : Int32) (M : eM) : Option (Int32 × eM) := if x2 ≤ 0 then (fX1_halved_11 x0 (0 : Int32) M) else (ea_ck (ea_nz x2) (fX1_halved_11 x0 (x1 / x2) M))
def fX1_halved (x0 : Int32) (x1 : Int32) (x2 : Int32) (M : eM) : Option (Int32 × eM) := fX1_halved_0 x0 x1 x2 M
section SX1_halved
variable {p : Program} {l : Launch} {e : Env} {s : State} {m : MethodId} {args : Array Value} {below : List Frame} {meth : Method} {cd : Code} {E : eE} {ids : List Nat} {res : Int32 × eM}
set_option maxHeartbeats 4000000 in
set_option maxRecDepth 20000 in
theorem wX1_halved_11 (C : ea_C p s m args meth cd cX1_halved 4 (some .int) RX1) (hX : ea_X ids) : ∀ (x0 : Int32) (t0 : Int32) (M : eM) (H : Heap) (locs : List Loc) (ls : Array Slot), fX1_halved_11 x0 t0 M = some res → ea_w E ids M s H locs → lv_has ls 4 [(0, .int x0)] → W p l e (ea_rm 0 0) s m args below meth cd H locs 0 0 (MQ below (ea_Qi E ids res) args s 0 0 (ea_Ad E ids)) (F0 m 11 ls [.int t0]) := by
  intro x0 t0 M H locs ls hf  hw hl
  replace hf := (fX1_halved_11.eq_1 ..).symm.trans hf
  refine lv_istore_n (lv' := [(3, .int t0), (0, .int x0)]) C.1 C.2.1 dX1_halved_11 rfl hl (by decide) rfl (fun ls hl => ?_)
  refine lv_iload_n C.1 C.2.1 dX1_halved_12 rfl (lv_at hl 0 rfl) ?_
  refine lv_bipush (v := 31) C.1 C.2.1 dX1_halved_13 (by decide) ?_
  refine lv_icmp_le (tgt := 22) C.1 C.2.1 dX1_halved_15 (by decide) (fun hc1 => ?_) (fun hc1 => ?_)
  · replace hf := ea_if_t hc1 hf
    refine lv_iload_n C.1 C.2.1 dX1_halved_22 rfl (lv_at hl 1 rfl) ?_
    refine lv_iload_n C.1 C.2.1 dX1_halved_23 rfl (lv_at hl 0 rfl) ?_
    refine lv_ishr C.1 C.2.1 dX1_halved_24 ?_
    exact ea_iret C hw hf dX1_halved_25
  · replace hf := ea_if_f hc1 hf
    refine lv_iconst (v := 0) C.1 C.2.1 dX1_halved_18 (by decide) ?_
    refine lv_goto (tgt := 25) C.1 C.2.1 dX1_halved_19 (by decide) ?_
    exact ea_iret C hw hf dX1_halved_25
set_option maxHeartbeats 4000000 in
set_option maxRecDepth 20000 in
theorem wX1_halved_0 (C : ea_C p s m args meth cd cX1_halved 4 (some .int) RX1) (hX : ea_X ids) : ∀ (x0 : Int32) (x1 : Int32) (x2 : Int32) (M : eM) (H : Heap) (locs : List Loc) (ls : Array Slot), fX1_halved_0 x0 x1 x2 M = some res → ea_w E ids M s H locs → lv_has ls 4 [(0, .int x0), (1, .int x1), (2, .int x2)] → W p l e (ea_rm 0 0) s m args below meth cd H locs 0 0 (MQ below (ea_Qi E ids res) args s 0 0 (ea_Ad E ids)) (F0 m 0 ls []) := by
  intro x0 x1 x2 M H locs ls hf  hw hl
  replace hf := (fX1_halved_0.eq_1 ..).symm.trans hf
  refine lv_iload_n C.1 C.2.1 dX1_halved_0 rfl (lv_at hl 2 rfl) ?_
  refine lv_if_le (tgt := 10) C.1 C.2.1 dX1_halved_1 (by decide) (fun hc1 => ?_) (fun hc1 => ?_)
  · replace hf := ea_if_t hc1 hf
    refine lv_iconst (v := 0) C.1 C.2.1 dX1_halved_10 (by decide) ?_
    exact wX1_halved_11 C hX _ _ _ _ _ _ hf hw (lv_sub hl [0] rfl)
  · replace hf := ea_if_f hc1 hf
    refine lv_iload_n C.1 C.2.1 dX1_halved_4 rfl (lv_at hl 1 rfl) ?_
    refine lv_iload_n C.1 C.2.1 dX1_halved_5 rfl (lv_at hl 2 rfl) ?_
    obtain ⟨hc2, hf⟩ := ea_ck_s hf
    refine lv_idiv C.1 C.2.1 dX1_halved_6 (ea_nz_s hc2) ?_
    refine lv_goto (tgt := 11) C.1 C.2.1 dX1_halved_7 (by decide) ?_
    exact wX1_halved_11 C hX _ _ _ _ _ _ hf hw (lv_sub hl [0] rfl)
set_option maxHeartbeats 4000000 in
set_option maxRecDepth 20000 in
theorem mX1_halved {l : Launch} {E : eE} {ids : List Nat} (hX : ea_X ids) {x0 : Int32} {x1 : Int32} {x2 : Int32} {M : eM} {res : Int32 × eM} (hf : fX1_halved x0 x1 x2 M = some res) : ea_Mi l yX1_halved cX1_halved 4 (some .int) 0 0 E ids [.int x0, .int x1, .int x2] M res := by
  refine ea_goi (by decide) (Nat.le_of_ble_eq_true rfl) wc_X1_halved ?_
  intro p e s m below meth cd ls C hw hl
  exact wX1_halved_0 C hX _ _ _ _ _ _ _ hf hw hl
end SX1_halved

def fX1_strengthOf_0 (a0 : Nat) (x1 : Int32) (x2 : Int32) (M : eM) : Option (Int32 × eM) := ea_ck (ea_ix ((x1 * (6 : Int32)) + (3 : Int32)) (ea_len (a0 + 4))) (ea_lt (M.1 (a0 + 4) ((x1 * (6 : Int32)) + (3 : Int32)).toNatClampNeg) (fun y2 => ea_ck (ea_ix ((x1 * (6 : Int32)) + (4 : Int32)) (ea_len (a0 + 4))) (ea_ci (fX1_halved y2 x2 (M.1 (a0 + 4) ((x1 * (6 : Int32)) + (4 : Int32)).toNatClampNeg) M) (fun r6 M7 => ea_ck (ea_ix ((x1 * (6 : Int32)) + (5 : Int32)) (ea_len (a0 + 4))) (ea_ci (fX1_halved ((1000 : Int32) - y2) x2 (M7.1 (a0 + 4) ((x1 * (6 : Int32)) + (5 : Int32)).toNatClampNeg) M7) (fun r10 M11 => some (r6 + r10, M11)))))))
def fX1_strengthOf (a0 : Nat) (x1 : Int32) (x2 : Int32) (M : eM) : Option (Int32 × eM) := fX1_strengthOf_0 a0 x1 x2 M
section SX1_strengthOf
variable {p : Program} {l : Launch} {e : Env} {s : State} {m : MethodId} {args : Array Value} {below : List Frame} {meth : Method} {cd : Code} {E : eE} {ids : List Nat} {res : Int32 × eM} {a0 : Nat}
set_option maxHeartbeats 4000000 in
set_option maxRecDepth 20000 in
theorem wX1_strengthOf_0 (C : ea_C p s m args meth cd cX1_strengthOf 5 (some .int) RX1) (hX : ea_X ids) (ho0 : ea_ok ids a0 1) : ∀ (x1 : Int32) (x2 : Int32) (M : eM) (H : Heap) (locs : List Loc) (ls : Array Slot), fX1_strengthOf_0 a0 x1 x2 M = some res → ea_w E ids M s H locs → lv_has ls 5 [(0, .ref (E.1 a0)), (1, .int x1), (2, .int x2)] → W p l e (ea_rm 1 23) s m args below meth cd H locs 0 0 (MQ below (ea_Qi E ids res) args s 0 0 (ea_Ad E ids)) (F0 m 0 ls []) := by
  intro x1 x2 M H locs ls hf  hw hl
  replace hf := (fX1_strengthOf_0.eq_1 ..).symm.trans hf
  refine lv_iload_n C.1 C.2.1 dX1_strengthOf_0 rfl (lv_at hl 1 rfl) ?_
  refine lv_bipush (v := 6) C.1 C.2.1 dX1_strengthOf_1 (by decide) ?_
  refine lv_imul C.1 C.2.1 dX1_strengthOf_3 ?_
  refine lv_istore_n (lv' := [(3, .int (x1 * (6 : Int32))), (0, .ref (E.1 a0)), (1, .int x1), (2, .int x2)]) C.1 C.2.1 dX1_strengthOf_4 rfl hl (by decide) rfl (fun ls hl => ?_)
  refine lv_aload_n C.1 C.2.1 dX1_strengthOf_5 rfl (lv_at hl 1 rfl) ?_
  refine gf_X1_22 C hw ho0 dX1_strengthOf_6 ?_
  refine lv_iload_n C.1 C.2.1 dX1_strengthOf_9 rfl (lv_at hl 0 rfl) ?_
  refine lv_iconst (v := 3) C.1 C.2.1 dX1_strengthOf_10 (by decide) ?_
  refine lv_iadd C.1 C.2.1 dX1_strengthOf_11 ?_
  obtain ⟨hc1, hf⟩ := ea_ck_s hf
  refine ea_iald C hw (ok_1_10 ho0) hc1 dX1_strengthOf_12 ?_
  obtain ⟨y2, ey3, hf⟩ := ea_lt_s hf
  refine ea_topi ey3 ?_
  refine lv_istore (lv' := [(4, .int y2), (3, .int (x1 * (6 : Int32))), (0, .ref (E.1 a0)), (1, .int x1), (2, .int x2)]) C.1 C.2.1 dX1_strengthOf_13 hl (by decide) rfl (fun ls hl => ?_)
  refine lv_iload C.1 C.2.1 dX1_strengthOf_15 (lv_at hl 0 rfl) ?_
  refine lv_iload_n C.1 C.2.1 dX1_strengthOf_17 rfl (lv_at hl 4 rfl) ?_
  refine lv_aload_n C.1 C.2.1 dX1_strengthOf_18 rfl (lv_at hl 2 rfl) ?_
  refine gf_X1_22 C hw ho0 dX1_strengthOf_19 ?_
  refine lv_iload_n C.1 C.2.1 dX1_strengthOf_22 rfl (lv_at hl 1 rfl) ?_
  refine lv_iconst (v := 4) C.1 C.2.1 dX1_strengthOf_23 (by decide) ?_
  refine lv_iadd C.1 C.2.1 dX1_strengthOf_24 ?_
  obtain ⟨hc4, hf⟩ := ea_ck_s hf
  refine ea_iald C hw (ok_1_10 ho0) hc4 dX1_strengthOf_25 ?_
  obtain ⟨r6, M7, he5, hf⟩ := ea_ci_s hf
  refine ea_runi2 hw (cl_X1_89 C hw (As := [.int y2, .int x2, .int (M.1 (a0 + 4) ((x1 * (6 : Int32)) + (4 : Int32)).toNatClampNeg)]) (rest := []) (mX1_halved (l := l) (E := E) (ids := ids) hX he5) (by decide) rfl hl.1 rfl (Nat.le_of_ble_eq_true rfl) dX1_strengthOf_26 ⟨Nat.le_refl _, Nat.le_refl _⟩) (fun H locs hw => ?_)
  refine lv_sipush (v := 1000) C.1 C.2.1 dX1_strengthOf_29 (by decide) ?_
  refine lv_iload C.1 C.2.1 dX1_strengthOf_32 (lv_at hl 0 rfl) ?_
  refine lv_isub C.1 C.2.1 dX1_strengthOf_34 ?_
  refine lv_iload_n C.1 C.2.1 dX1_strengthOf_35 rfl (lv_at hl 4 rfl) ?_
  refine lv_aload_n C.1 C.2.1 dX1_strengthOf_36 rfl (lv_at hl 2 rfl) ?_
  refine gf_X1_22 C hw ho0 dX1_strengthOf_37 ?_
  refine lv_iload_n C.1 C.2.1 dX1_strengthOf_40 rfl (lv_at hl 1 rfl) ?_
  refine lv_iconst (v := 5) C.1 C.2.1 dX1_strengthOf_41 (by decide) ?_
  refine lv_iadd C.1 C.2.1 dX1_strengthOf_42 ?_
  obtain ⟨hc8, hf⟩ := ea_ck_s hf
  refine ea_iald C hw (ok_1_10 ho0) hc8 dX1_strengthOf_43 ?_
  obtain ⟨r10, M11, he9, hf⟩ := ea_ci_s hf
  refine ea_runi2 hw (cl_X1_89 C hw (As := [.int ((1000 : Int32) - y2), .int x2, .int (M7.1 (a0 + 4) ((x1 * (6 : Int32)) + (5 : Int32)).toNatClampNeg)]) (rest := [.int r6]) (mX1_halved (l := l) (E := E) (ids := ids) hX he9) (by decide) rfl hl.1 rfl (Nat.le_of_ble_eq_true rfl) dX1_strengthOf_44 ⟨Nat.le_refl _, Nat.le_refl _⟩) (fun H locs hw => ?_)
  refine lv_iadd C.1 C.2.1 dX1_strengthOf_47 ?_
  exact ea_iret C hw hf dX1_strengthOf_48
set_option maxHeartbeats 4000000 in
set_option maxRecDepth 20000 in
theorem mX1_strengthOf {l : Launch} {E : eE} {ids : List Nat} (hX : ea_X ids) {a0 : Nat} {x1 : Int32} {x2 : Int32} (ho0 : ea_ok ids a0 1) {M : eM} {res : Int32 × eM} (hf : fX1_strengthOf a0 x1 x2 M = some res) : ea_Mi l yX1_strengthOf cX1_strengthOf 5 (some .int) 1 23 E ids [.ref (E.1 a0), .int x1, .int x2] M res := by
  refine ea_goi (by decide) (Nat.le_of_ble_eq_true rfl) wc_X1_strengthOf ?_
  intro p e s m below meth cd ls C hw hl
  exact wX1_strengthOf_0 C hX ho0 _ _ _ _ _ _ hf hw hl
end SX1_strengthOf

def fX1_takesOf_0 (a0 : Nat) (x1 : Int32) (x2 : Int32) (M : eM) : Option (Int32 × eM) := ea_ck (ea_ix ((x1 * (6 : Int32)) + x2) (ea_len (a0 + 4))) (some (M.1 (a0 + 4) ((x1 * (6 : Int32)) + x2).toNatClampNeg, M))
def fX1_takesOf (a0 : Nat) (x1 : Int32) (x2 : Int32) (M : eM) : Option (Int32 × eM) := fX1_takesOf_0 a0 x1 x2 M
section SX1_takesOf
variable {p : Program} {l : Launch} {e : Env} {s : State} {m : MethodId} {args : Array Value} {below : List Frame} {meth : Method} {cd : Code} {E : eE} {ids : List Nat} {res : Int32 × eM} {a0 : Nat}
set_option maxHeartbeats 4000000 in
set_option maxRecDepth 20000 in
theorem wX1_takesOf_0 (C : ea_C p s m args meth cd cX1_takesOf 3 (some .int) RX1) (hX : ea_X ids) (ho0 : ea_ok ids a0 1) : ∀ (x1 : Int32) (x2 : Int32) (M : eM) (H : Heap) (locs : List Loc) (ls : Array Slot), fX1_takesOf_0 a0 x1 x2 M = some res → ea_w E ids M s H locs → lv_has ls 3 [(0, .ref (E.1 a0)), (1, .int x1), (2, .int x2)] → W p l e (ea_rm 0 0) s m args below meth cd H locs 0 0 (MQ below (ea_Qi E ids res) args s 0 0 (ea_Ad E ids)) (F0 m 0 ls []) := by
  intro x1 x2 M H locs ls hf  hw hl
  replace hf := (fX1_takesOf_0.eq_1 ..).symm.trans hf
  refine lv_aload_n C.1 C.2.1 dX1_takesOf_0 rfl (lv_at hl 0 rfl) ?_
  refine gf_X1_22 C hw ho0 dX1_takesOf_1 ?_
  refine lv_iload_n C.1 C.2.1 dX1_takesOf_4 rfl (lv_at hl 1 rfl) ?_
  refine lv_bipush (v := 6) C.1 C.2.1 dX1_takesOf_5 (by decide) ?_
  refine lv_imul C.1 C.2.1 dX1_takesOf_7 ?_
  refine lv_iload_n C.1 C.2.1 dX1_takesOf_8 rfl (lv_at hl 2 rfl) ?_
  refine lv_iadd C.1 C.2.1 dX1_takesOf_9 ?_
  obtain ⟨hc1, hf⟩ := ea_ck_s hf
  refine ea_iald C hw (ok_1_10 ho0) hc1 dX1_takesOf_10 ?_
  exact ea_iret C hw hf dX1_takesOf_11
set_option maxHeartbeats 4000000 in
set_option maxRecDepth 20000 in
theorem mX1_takesOf {l : Launch} {E : eE} {ids : List Nat} (hX : ea_X ids) {a0 : Nat} {x1 : Int32} {x2 : Int32} (ho0 : ea_ok ids a0 1) {M : eM} {res : Int32 × eM} (hf : fX1_takesOf a0 x1 x2 M = some res) : ea_Mi l yX1_takesOf cX1_takesOf 3 (some .int) 0 0 E ids [.ref (E.1 a0), .int x1, .int x2] M res := by
  refine ea_goi (by decide) (Nat.le_of_ble_eq_true rfl) wc_X1_takesOf ?_
  intro p e s m below meth cd ls C hw hl
  exact wX1_takesOf_0 C hX ho0 _ _ _ _ _ _ hf hw hl
end SX1_takesOf

def fX9_takenBy_0 (x1 : Int32) (x2 : Int32) (x3 : Int32) (M : eM) : Option (Int32 × eM) := if x1 < (45 : Int32) then (ea_ck (ea_is (M.2.2 4 0) 1) (ea_ci (fX1_takesOf (M.2.2 4 0) (x1 / (9 : Int32)) x3 M) (fun r4 M5 => ea_ck (ea_is (M5.2.2 4 0) 1) (ea_ci (fX1_strengthOf (M5.2.2 4 0) (x1 / (9 : Int32)) x2 M5) (fun r8 M9 => some (((((x1 - x1 / (9 : Int32) * (9 : Int32)) + (1 : Int32)) * r4) * r8) / (9000 : Int32), M9)))))) else (some ((0 : Int32), M))
def fX9_takenBy (x1 : Int32) (x2 : Int32) (x3 : Int32) (M : eM) : Option (Int32 × eM) := fX9_takenBy_0 x1 x2 x3 M
section SX9_takenBy
variable {p : Program} {l : Launch} {e : Env} {s : State} {m : MethodId} {args : Array Value} {below : List Frame} {meth : Method} {cd : Code} {E : eE} {ids : List Nat} {res : Int32 × eM}
set_option maxHeartbeats 4000000 in
set_option maxRecDepth 20000 in
theorem wX9_takenBy_0 (C : ea_C p s m args meth cd cX9_takenBy 5 (some .int) RX9) (hX : ea_X ids) : ∀ (x1 : Int32) (x2 : Int32) (x3 : Int32) (M : eM) (H : Heap) (locs : List Loc) (ls : Array Slot), fX9_takenBy_0 x1 x2 x3 M = some res → ea_w E ids M s H locs → lv_has ls 5 [(0, .ref (E.1 4)), (1, .int x1), (2, .int x2), (3, .int x3)] → W p l e (ea_rm 2 47) s m args below meth cd H locs 0 0 (MQ below (ea_Qi E ids res) args s 0 0 (ea_Ad E ids)) (F0 m 0 ls []) := by
  intro x1 x2 x3 M H locs ls hf  hw hl
  replace hf := (fX9_takenBy_0.eq_1 ..).symm.trans hf
  refine lv_iload_n C.1 C.2.1 dX9_takenBy_0 rfl (lv_at hl 1 rfl) ?_
  refine lv_bipush (v := 45) C.1 C.2.1 dX9_takenBy_1 (by decide) ?_
  refine lv_icmp_lt (tgt := 8) C.1 C.2.1 dX9_takenBy_3 (by decide) (fun hc1 => ?_) (fun hc1 => ?_)
  · replace hf := ea_if_t hc1 hf
    refine lv_iload_n C.1 C.2.1 dX9_takenBy_8 rfl (lv_at hl 1 rfl) ?_
    refine lv_bipush (v := 9) C.1 C.2.1 dX9_takenBy_9 (by decide) ?_
    refine lv_idiv C.1 C.2.1 dX9_takenBy_11 (by decide) ?_
    refine lv_istore (lv' := [(4, .int (x1 / (9 : Int32))), (0, .ref (E.1 4)), (1, .int x1), (2, .int x2), (3, .int x3)]) C.1 C.2.1 dX9_takenBy_12 hl (by decide) rfl (fun ls hl => ?_)
    refine lv_iload_n C.1 C.2.1 dX9_takenBy_14 rfl (lv_at hl 2 rfl) ?_
    refine lv_bipush (v := 9) C.1 C.2.1 dX9_takenBy_15 (by decide) ?_
    refine lv_irem C.1 C.2.1 dX9_takenBy_17 (by decide) ?_
    refine lv_iconst (v := 1) C.1 C.2.1 dX9_takenBy_18 (by decide) ?_
    refine lv_iadd C.1 C.2.1 dX9_takenBy_19 ?_
    refine lv_aload_n C.1 C.2.1 dX9_takenBy_20 rfl (lv_at hl 1 rfl) ?_
    refine gf_X9_18 C hw (hX 4 9 rfl) dX9_takenBy_21 ?_
    obtain ⟨hc2, hf⟩ := ea_ck_s hf
    refine lv_iload C.1 C.2.1 dX9_takenBy_24 (lv_at hl 0 rfl) ?_
    refine lv_iload_n C.1 C.2.1 dX9_takenBy_26 rfl (lv_at hl 4 rfl) ?_
    obtain ⟨r4, M5, he3, hf⟩ := ea_ci_s hf
    refine ea_runi2 hw (cl_X9_38 C hw (ea_dyn hX hc2) (As := [.int (x1 / (9 : Int32)), .int x3]) (rest := [.int ((x1 - x1 / (9 : Int32) * (9 : Int32)) + (1 : Int32))]) (mX1_takesOf (l := l) (E := E) (ids := ids) hX (ea_dyn hX hc2) he3) (by decide) rfl hl.1 rfl (Nat.le_of_ble_eq_true rfl) dX9_takenBy_27 ⟨Nat.le_refl _, Nat.le_refl _⟩) (fun H locs hw => ?_)
    refine lv_imul C.1 C.2.1 dX9_takenBy_30 ?_
    refine lv_aload_n C.1 C.2.1 dX9_takenBy_31 rfl (lv_at hl 1 rfl) ?_
    refine gf_X9_18 C hw (hX 4 9 rfl) dX9_takenBy_32 ?_
    obtain ⟨hc6, hf⟩ := ea_ck_s hf
    refine lv_iload C.1 C.2.1 dX9_takenBy_35 (lv_at hl 0 rfl) ?_
    refine lv_iload_n C.1 C.2.1 dX9_takenBy_37 rfl (lv_at hl 3 rfl) ?_
    obtain ⟨r8, M9, he7, hf⟩ := ea_ci_s hf
    refine ea_runi2 hw (cl_X9_42 C hw (ea_dyn hX hc6) (As := [.int (x1 / (9 : Int32)), .int x2]) (rest := [.int (((x1 - x1 / (9 : Int32) * (9 : Int32)) + (1 : Int32)) * r4)]) (mX1_strengthOf (l := l) (E := E) (ids := ids) hX (ea_dyn hX hc6) he7) (by decide) rfl hl.1 rfl (Nat.le_of_ble_eq_true rfl) dX9_takenBy_38 ⟨Nat.le_refl _, Nat.le_refl _⟩) (fun H locs hw => ?_)
    refine lv_imul C.1 C.2.1 dX9_takenBy_41 ?_
    refine lv_sipush (v := 9000) C.1 C.2.1 dX9_takenBy_42 (by decide) ?_
    refine lv_idiv C.1 C.2.1 dX9_takenBy_45 (by decide) ?_
    exact ea_iret C hw hf dX9_takenBy_46
  · replace hf := ea_if_f hc1 hf
    refine lv_iconst (v := 0) C.1 C.2.1 dX9_takenBy_6 (by decide) ?_
    exact ea_iret C hw hf dX9_takenBy_7
set_option maxHeartbeats 4000000 in
set_option maxRecDepth 20000 in
theorem mX9_takenBy {l : Launch} {E : eE} {ids : List Nat} (hX : ea_X ids) {x1 : Int32} {x2 : Int32} {x3 : Int32} {M : eM} {res : Int32 × eM} (hf : fX9_takenBy x1 x2 x3 M = some res) : ea_Mi l yX9_takenBy cX9_takenBy 5 (some .int) 2 47 E ids [.ref (E.1 4), .int x1, .int x2, .int x3] M res := by
  refine ea_goi (by decide) (Nat.le_of_ble_eq_true rfl) wc_X9_takenBy ?_
  intro p e s m below meth cd ls C hw hl
  exact wX9_takenBy_0 C hX _ _ _ _ _ _ _ hf hw hl
end SX9_takenBy

def fX9_shadeOf_0 (x1 : Int32) (x2 : Int32) (x3 : Int32) (M : eM) : Option (Int32 × eM) := ea_ck (ea_ix x1 (ea_len 5)) (ea_ci (fX9_takenBy (M.1 5 x1.toNatClampNeg) x2 x3 M) (fun r3 M4 => ea_ck (ea_ix x1 (ea_len 6)) (ea_ci (fX9_takenBy (M4.1 6 x1.toNatClampNeg) x2 x3 M4) (fun r7 M8 => some (ea_max (0 : Int32) (((99 : Int32) - r3) - r7), M8)))))
def fX9_shadeOf (x1 : Int32) (x2 : Int32) (x3 : Int32) (M : eM) : Option (Int32 × eM) := fX9_shadeOf_0 x1 x2 x3 M
section SX9_shadeOf
variable {p : Program} {l : Launch} {e : Env} {s : State} {m : MethodId} {args : Array Value} {below : List Frame} {meth : Method} {cd : Code} {E : eE} {ids : List Nat} {res : Int32 × eM}
set_option maxHeartbeats 4000000 in
set_option maxRecDepth 20000 in
theorem wX9_shadeOf_0 (C : ea_C p s m args meth cd cX9_shadeOf 4 (some .int) RX9) (hX : ea_X ids) : ∀ (x1 : Int32) (x2 : Int32) (x3 : Int32) (M : eM) (H : Heap) (locs : List Loc) (ls : Array Slot), fX9_shadeOf_0 x1 x2 x3 M = some res → ea_w E ids M s H locs → lv_has ls 4 [(0, .ref (E.1 4)), (1, .int x1), (2, .int x2), (3, .int x3)] → W p l e (ea_rm 3 71) s m args below meth cd H locs 0 0 (MQ below (ea_Qi E ids res) args s 0 0 (ea_Ad E ids)) (F0 m 0 ls []) := by
  intro x1 x2 x3 M H locs ls hf  hw hl
  replace hf := (fX9_shadeOf_0.eq_1 ..).symm.trans hf
  refine lv_iconst (v := 0) C.1 C.2.1 dX9_shadeOf_0 (by decide) ?_
  refine lv_bipush (v := 99) C.1 C.2.1 dX9_shadeOf_1 (by decide) ?_
  refine lv_aload_n C.1 C.2.1 dX9_shadeOf_3 rfl (lv_at hl 0 rfl) ?_
  refine lv_aload_n C.1 C.2.1 dX9_shadeOf_4 rfl (lv_at hl 0 rfl) ?_
  refine gf_X9_11 C hw (hX 4 9 rfl) dX9_shadeOf_5 ?_
  refine W.eq (g2 := F0 m 8 ls [.ref (E.1 5), .ref (E.1 4), .int (99 : Int32), .int (0 : Int32)]) rfl ?_
  refine lv_iload_n C.1 C.2.1 dX9_shadeOf_8 rfl (lv_at hl 1 rfl) ?_
  obtain ⟨hc1, hf⟩ := ea_ck_s hf
  refine ea_iald C hw (show ea_ok ids 5 20 from ok_9_2 (hX 4 9 rfl)) hc1 dX9_shadeOf_9 ?_
  refine lv_iload_n C.1 C.2.1 dX9_shadeOf_10 rfl (lv_at hl 2 rfl) ?_
  refine lv_iload_n C.1 C.2.1 dX9_shadeOf_11 rfl (lv_at hl 3 rfl) ?_
  obtain ⟨r3, M4, he2, hf⟩ := ea_ci_s hf
  refine ea_runi2 hw (cl_X9_45 C hw (hX 4 9 rfl) (As := [.int (M.1 5 x1.toNatClampNeg), .int x2, .int x3]) (rest := [.int (99 : Int32), .int (0 : Int32)]) (mX9_takenBy (l := l) (E := E) (ids := ids) hX he2) (by decide) rfl hl.1 rfl (Nat.le_of_ble_eq_true rfl) dX9_shadeOf_12 ⟨Nat.le_refl _, Nat.le_refl _⟩) (fun H locs hw => ?_)
  refine lv_isub C.1 C.2.1 dX9_shadeOf_15 ?_
  refine lv_aload_n C.1 C.2.1 dX9_shadeOf_16 rfl (lv_at hl 0 rfl) ?_
  refine lv_aload_n C.1 C.2.1 dX9_shadeOf_17 rfl (lv_at hl 0 rfl) ?_
  refine gf_X9_15 C hw (hX 4 9 rfl) dX9_shadeOf_18 ?_
  refine W.eq (g2 := F0 m 21 ls [.ref (E.1 6), .ref (E.1 4), .int ((99 : Int32) - r3), .int (0 : Int32)]) rfl ?_
  refine lv_iload_n C.1 C.2.1 dX9_shadeOf_21 rfl (lv_at hl 1 rfl) ?_
  obtain ⟨hc5, hf⟩ := ea_ck_s hf
  refine ea_iald C hw (show ea_ok ids 6 20 from ok_9_3 (hX 4 9 rfl)) hc5 dX9_shadeOf_22 ?_
  refine lv_iload_n C.1 C.2.1 dX9_shadeOf_23 rfl (lv_at hl 2 rfl) ?_
  refine lv_iload_n C.1 C.2.1 dX9_shadeOf_24 rfl (lv_at hl 3 rfl) ?_
  obtain ⟨r7, M8, he6, hf⟩ := ea_ci_s hf
  refine ea_runi2 hw (cl_X9_45 C hw (hX 4 9 rfl) (As := [.int (M4.1 6 x1.toNatClampNeg), .int x2, .int x3]) (rest := [.int ((99 : Int32) - r3), .int (0 : Int32)]) (mX9_takenBy (l := l) (E := E) (ids := ids) hX he6) (by decide) rfl hl.1 rfl (Nat.le_of_ble_eq_true rfl) dX9_shadeOf_25 ⟨Nat.le_refl _, Nat.le_refl _⟩) (fun H locs hw => ?_)
  refine lv_isub C.1 C.2.1 dX9_shadeOf_28 ?_
  refine mm_X9_49 C hl.1 (by decide) (Nat.le_of_ble_eq_true rfl) ⟨Nat.le_refl _, Nat.le_refl _⟩ dX9_shadeOf_29 ?_
  exact ea_iret C hw hf dX9_shadeOf_32
set_option maxHeartbeats 4000000 in
set_option maxRecDepth 20000 in
theorem mX9_shadeOf {l : Launch} {E : eE} {ids : List Nat} (hX : ea_X ids) {x1 : Int32} {x2 : Int32} {x3 : Int32} {M : eM} {res : Int32 × eM} (hf : fX9_shadeOf x1 x2 x3 M = some res) : ea_Mi l yX9_shadeOf cX9_shadeOf 4 (some .int) 3 71 E ids [.ref (E.1 4), .int x1, .int x2, .int x3] M res := by
  refine ea_goi (by decide) (Nat.le_of_ble_eq_true rfl) wc_X9_shadeOf ?_
  intro p e s m below meth cd ls C hw hl
  exact wX9_shadeOf_0 C hX _ _ _ _ _ _ _ hf hw hl
end SX9_shadeOf

def fX10_yearsBorne_29 (k61 : Int32 → Int32 → Int32 → Int32 → Int32 → Int32 → eM → Option (Int32 × eM)) : Nat → Int32 → Int32 → Int32 → Int32 → Int32 → Int32 → Int32 → eM → Option (Int32 × eM)
  | 0, _, _, _, _, _, _, _, _ => none
  | n + 1, x1, x2, x3, x4, x6, x7, x8, M => if x6 ≤ 0 then (k61 x1 x2 x3 x4 x6 x7 M) else (ea_ci (fX9_shadeOf x1 (x2 + (x6 * x3)) x7 M) (fun r3 M4 => if r3 ≤ x8 then (k61 x1 x2 x3 x4 x6 x7 M4) else (fX10_yearsBorne_29 k61 n x1 x2 x3 x4 (x6 + (-1 : Int32)) x7 x8 M4)))
def fX10_yearsBorne_61 (k7 : Int32 → Int32 → Int32 → Int32 → Int32 → Int32 → eM → Option (Int32 × eM)) (x1 : Int32) (x2 : Int32) (x3 : Int32) (x4 : Int32) (x6 : Int32) (x7 : Int32) (M : eM) : Option (Int32 × eM) := k7 x1 x2 x3 x4 x6 (x7 + (1 : Int32)) M
def fX10_yearsBorne_7 : Nat → Int32 → Int32 → Int32 → Int32 → Int32 → Int32 → eM → Option (Int32 × eM)
  | 0, _, _, _, _, _, _, _ => none
  | n + 1, x1, x2, x3, x4, x6, x7, M => if (3 : Int32) ≤ x7 then (some (x6, M)) else (ea_ci (fX9_shadeOf x1 x2 x7 M) (fun r3 M4 => fX10_yearsBorne_29 (fX10_yearsBorne_61 (fX10_yearsBorne_7 n)) ea_N x1 x2 x3 x4 x6 x7 (r3 + x4) M4))
def fX10_yearsBorne_0 (x1 : Int32) (x2 : Int32) (x3 : Int32) (x4 : Int32) (x5 : Int32) (M : eM) : Option (Int32 × eM) := fX10_yearsBorne_7 ea_N x1 x2 x3 x4 x5 (0 : Int32) M
def fX10_yearsBorne (x1 : Int32) (x2 : Int32) (x3 : Int32) (x4 : Int32) (x5 : Int32) (M : eM) : Option (Int32 × eM) := fX10_yearsBorne_0 x1 x2 x3 x4 x5 M
section SX10_yearsBorne
variable {p : Program} {l : Launch} {e : Env} {s : State} {m : MethodId} {args : Array Value} {below : List Frame} {meth : Method} {cd : Code} {E : eE} {ids : List Nat} {res : Int32 × eM}
set_option maxHeartbeats 4000000 in
set_option maxRecDepth 20000 in
theorem wX10_yearsBorne_29 (C : ea_C p s m args meth cd cX10_yearsBorne 9 (some .int) RX10) (hX : ea_X ids) {k61 : Int32 → Int32 → Int32 → Int32 → Int32 → Int32 → eM → Option (Int32 × eM)} (hk61 : ∀ (x1 : Int32) (x2 : Int32) (x3 : Int32) (x4 : Int32) (x6 : Int32) (x7 : Int32) (M : eM) (H : Heap) (locs : List Loc) (ls : Array Slot), k61 x1 x2 x3 x4 x6 x7 M = some res → ea_w E ids M s H locs → lv_has ls 9 [(0, .ref (E.1 0)), (1, .int x1), (2, .int x2), (3, .int x3), (4, .int x4), (6, .int x6), (7, .int x7)] → W p l e (ea_rm 4 94) s m args below meth cd H locs 0 0 (MQ below (ea_Qi E ids res) args s 0 0 (ea_Ad E ids)) (F0 m 61 ls [])) : ∀ (n : Nat) (x1 : Int32) (x2 : Int32) (x3 : Int32) (x4 : Int32) (x6 : Int32) (x7 : Int32) (x8 : Int32) (M : eM) (H : Heap) (locs : List Loc) (ls : Array Slot), fX10_yearsBorne_29 k61 n x1 x2 x3 x4 x6 x7 x8 M = some res → ea_w E ids M s H locs → lv_has ls 9 [(0, .ref (E.1 0)), (1, .int x1), (2, .int x2), (3, .int x3), (4, .int x4), (6, .int x6), (7, .int x7), (8, .int x8)] → W p l e (ea_rm 4 94) s m args below meth cd H locs 0 0 (MQ below (ea_Qi E ids res) args s 0 0 (ea_Ad E ids)) (F0 m 29 ls []) := by
  intro n
  induction n with
  | zero => intro x1 x2 x3 x4 x6 x7 x8 M H locs ls hf; cases hf
  | succ n ih =>
    intro x1 x2 x3 x4 x6 x7 x8 M H locs ls hf  hw hl
    replace hf := (fX10_yearsBorne_29.eq_2 ..).symm.trans hf
    refine lv_iload C.1 C.2.1 dX10_yearsBorne_29 (lv_at hl 5 rfl) ?_
    refine lv_if_le (tgt := 61) C.1 C.2.1 dX10_yearsBorne_31 (by decide) (fun hc1 => ?_) (fun hc1 => ?_)
    · replace hf := ea_if_t hc1 hf
      exact hk61 _ _ _ _ _ _ _ _ _ _ hf hw (lv_sub hl [0, 1, 2, 3, 4, 5, 6] rfl)
    · replace hf := ea_if_f hc1 hf
      refine lv_aload_n C.1 C.2.1 dX10_yearsBorne_34 rfl (lv_at hl 0 rfl) ?_
      refine gf_X10_24 C hw (hX 0 10 rfl) dX10_yearsBorne_35 ?_
      refine lv_iload_n C.1 C.2.1 dX10_yearsBorne_38 rfl (lv_at hl 1 rfl) ?_
      refine lv_iload_n C.1 C.2.1 dX10_yearsBorne_39 rfl (lv_at hl 2 rfl) ?_
      refine lv_iload C.1 C.2.1 dX10_yearsBorne_40 (lv_at hl 5 rfl) ?_
      refine lv_iload_n C.1 C.2.1 dX10_yearsBorne_42 rfl (lv_at hl 3 rfl) ?_
      refine lv_imul C.1 C.2.1 dX10_yearsBorne_43 ?_
      refine lv_iadd C.1 C.2.1 dX10_yearsBorne_44 ?_
      refine lv_iload C.1 C.2.1 dX10_yearsBorne_45 (lv_at hl 6 rfl) ?_
      obtain ⟨r3, M4, he2, hf⟩ := ea_ci_s hf
      refine ea_runi2 hw (cl_X10_189 C hw (hX 4 9 rfl) (As := [.int x1, .int (x2 + (x6 * x3)), .int x7]) (rest := []) (mX9_shadeOf (l := l) (E := E) (ids := ids) hX he2) (by decide) rfl hl.1 rfl (Nat.le_of_ble_eq_true rfl) dX10_yearsBorne_47 ⟨Nat.le_refl _, Nat.le_refl _⟩) (fun H locs hw => ?_)
      refine lv_iload C.1 C.2.1 dX10_yearsBorne_50 (lv_at hl 7 rfl) ?_
      refine lv_icmp_le (tgt := 61) C.1 C.2.1 dX10_yearsBorne_52 (by decide) (fun hc5 => ?_) (fun hc5 => ?_)
      · replace hf := ea_if_t hc5 hf
        exact hk61 _ _ _ _ _ _ _ _ _ _ hf hw (lv_sub hl [0, 1, 2, 3, 4, 5, 6] rfl)
      · replace hf := ea_if_f hc5 hf
        refine lv_iinc (v := x6 + (-1 : Int32)) (lv' := [(6, .int (x6 + (-1 : Int32))), (0, .ref (E.1 0)), (1, .int x1), (2, .int x2), (3, .int x3), (4, .int x4), (7, .int x7), (8, .int x8)]) C.1 C.2.1 dX10_yearsBorne_55 hl (k := 5) rfl rfl (by decide) rfl (fun ls hl => ?_)
        refine lv_goto (tgt := 29) C.1 C.2.1 dX10_yearsBorne_58 (by decide) ?_
        exact ih _ _ _ _ _ _ _ _ _ _ _ hf hw (lv_sub hl [1, 2, 3, 4, 5, 0, 6, 7] rfl)
set_option maxHeartbeats 4000000 in
set_option maxRecDepth 20000 in
theorem wX10_yearsBorne_61 (C : ea_C p s m args meth cd cX10_yearsBorne 9 (some .int) RX10) (hX : ea_X ids) {k7 : Int32 → Int32 → Int32 → Int32 → Int32 → Int32 → eM → Option (Int32 × eM)} (hk7 : ∀ (x1 : Int32) (x2 : Int32) (x3 : Int32) (x4 : Int32) (x6 : Int32) (x7 : Int32) (M : eM) (H : Heap) (locs : List Loc) (ls : Array Slot), k7 x1 x2 x3 x4 x6 x7 M = some res → ea_w E ids M s H locs → lv_has ls 9 [(0, .ref (E.1 0)), (1, .int x1), (2, .int x2), (3, .int x3), (4, .int x4), (6, .int x6), (7, .int x7)] → W p l e (ea_rm 4 94) s m args below meth cd H locs 0 0 (MQ below (ea_Qi E ids res) args s 0 0 (ea_Ad E ids)) (F0 m 7 ls [])) : ∀ (x1 : Int32) (x2 : Int32) (x3 : Int32) (x4 : Int32) (x6 : Int32) (x7 : Int32) (M : eM) (H : Heap) (locs : List Loc) (ls : Array Slot), fX10_yearsBorne_61 k7 x1 x2 x3 x4 x6 x7 M = some res → ea_w E ids M s H locs → lv_has ls 9 [(0, .ref (E.1 0)), (1, .int x1), (2, .int x2), (3, .int x3), (4, .int x4), (6, .int x6), (7, .int x7)] → W p l e (ea_rm 4 94) s m args below meth cd H locs 0 0 (MQ below (ea_Qi E ids res) args s 0 0 (ea_Ad E ids)) (F0 m 61 ls []) := by
  intro x1 x2 x3 x4 x6 x7 M H locs ls hf  hw hl
  replace hf := (fX10_yearsBorne_61.eq_1 ..).symm.trans hf
  refine lv_iinc (v := x7 + (1 : Int32)) (lv' := [(7, .int (x7 + (1 : Int32))), (0, .ref (E.1 0)), (1, .int x1), (2, .int x2), (3, .int x3), (4, .int x4), (6, .int x6)]) C.1 C.2.1 dX10_yearsBorne_61 hl (k := 6) rfl rfl (by decide) rfl (fun ls hl => ?_)
  refine lv_goto (tgt := 7) C.1 C.2.1 dX10_yearsBorne_64 (by decide) ?_
  exact hk7 _ _ _ _ _ _ _ _ _ _ hf hw (lv_sub hl [1, 2, 3, 4, 5, 6, 0] rfl)
set_option maxHeartbeats 4000000 in
set_option maxRecDepth 20000 in
theorem wX10_yearsBorne_7 (C : ea_C p s m args meth cd cX10_yearsBorne 9 (some .int) RX10) (hX : ea_X ids) : ∀ (n : Nat) (x1 : Int32) (x2 : Int32) (x3 : Int32) (x4 : Int32) (x6 : Int32) (x7 : Int32) (M : eM) (H : Heap) (locs : List Loc) (ls : Array Slot), fX10_yearsBorne_7 n x1 x2 x3 x4 x6 x7 M = some res → ea_w E ids M s H locs → lv_has ls 9 [(0, .ref (E.1 0)), (1, .int x1), (2, .int x2), (3, .int x3), (4, .int x4), (6, .int x6), (7, .int x7)] → W p l e (ea_rm 4 94) s m args below meth cd H locs 0 0 (MQ below (ea_Qi E ids res) args s 0 0 (ea_Ad E ids)) (F0 m 7 ls []) := by
  intro n
  induction n with
  | zero => intro x1 x2 x3 x4 x6 x7 M H locs ls hf; cases hf
  | succ n ih =>
    intro x1 x2 x3 x4 x6 x7 M H locs ls hf  hw hl
    replace hf := (fX10_yearsBorne_7.eq_2 ..).symm.trans hf
    refine lv_iload C.1 C.2.1 dX10_yearsBorne_7 (lv_at hl 6 rfl) ?_
    refine lv_iconst (v := 3) C.1 C.2.1 dX10_yearsBorne_9 (by decide) ?_
    refine lv_icmp_ge (tgt := 67) C.1 C.2.1 dX10_yearsBorne_10 (by decide) (fun hc1 => ?_) (fun hc1 => ?_)
    · replace hf := ea_if_t hc1 hf
      refine lv_iload C.1 C.2.1 dX10_yearsBorne_67 (lv_at hl 5 rfl) ?_
      exact ea_iret C hw hf dX10_yearsBorne_69
    · replace hf := ea_if_f hc1 hf
      refine lv_aload_n C.1 C.2.1 dX10_yearsBorne_13 rfl (lv_at hl 0 rfl) ?_
      refine gf_X10_24 C hw (hX 0 10 rfl) dX10_yearsBorne_14 ?_
      refine lv_iload_n C.1 C.2.1 dX10_yearsBorne_17 rfl (lv_at hl 1 rfl) ?_
      refine lv_iload_n C.1 C.2.1 dX10_yearsBorne_18 rfl (lv_at hl 2 rfl) ?_
      refine lv_iload C.1 C.2.1 dX10_yearsBorne_19 (lv_at hl 6 rfl) ?_
      obtain ⟨r3, M4, he2, hf⟩ := ea_ci_s hf
      refine ea_runi2 hw (cl_X10_189 C hw (hX 4 9 rfl) (As := [.int x1, .int x2, .int x7]) (rest := []) (mX9_shadeOf (l := l) (E := E) (ids := ids) hX he2) (by decide) rfl hl.1 rfl (Nat.le_of_ble_eq_true rfl) dX10_yearsBorne_21 ⟨Nat.le_refl _, Nat.le_refl _⟩) (fun H locs hw => ?_)
      refine lv_iload C.1 C.2.1 dX10_yearsBorne_24 (lv_at hl 4 rfl) ?_
      refine lv_iadd C.1 C.2.1 dX10_yearsBorne_26 ?_
      refine lv_istore (lv' := [(8, .int (r3 + x4)), (0, .ref (E.1 0)), (1, .int x1), (2, .int x2), (3, .int x3), (4, .int x4), (6, .int x6), (7, .int x7)]) C.1 C.2.1 dX10_yearsBorne_27 hl (by decide) rfl (fun ls hl => ?_)
      exact wX10_yearsBorne_29 C hX (wX10_yearsBorne_61 C hX ih) ea_N _ _ _ _ _ _ _ _ _ _ _ hf hw (lv_sub hl [1, 2, 3, 4, 5, 6, 7, 0] rfl)
set_option maxHeartbeats 4000000 in
set_option maxRecDepth 20000 in
theorem wX10_yearsBorne_0 (C : ea_C p s m args meth cd cX10_yearsBorne 9 (some .int) RX10) (hX : ea_X ids) : ∀ (x1 : Int32) (x2 : Int32) (x3 : Int32) (x4 : Int32) (x5 : Int32) (M : eM) (H : Heap) (locs : List Loc) (ls : Array Slot), fX10_yearsBorne_0 x1 x2 x3 x4 x5 M = some res → ea_w E ids M s H locs → lv_has ls 9 [(0, .ref (E.1 0)), (1, .int x1), (2, .int x2), (3, .int x3), (4, .int x4), (5, .int x5)] → W p l e (ea_rm 4 94) s m args below meth cd H locs 0 0 (MQ below (ea_Qi E ids res) args s 0 0 (ea_Ad E ids)) (F0 m 0 ls []) := by
  intro x1 x2 x3 x4 x5 M H locs ls hf  hw hl
  replace hf := (fX10_yearsBorne_0.eq_1 ..).symm.trans hf
  refine lv_iload C.1 C.2.1 dX10_yearsBorne_0 (lv_at hl 5 rfl) ?_
  refine lv_istore (lv' := [(6, .int x5), (0, .ref (E.1 0)), (1, .int x1), (2, .int x2), (3, .int x3), (4, .int x4), (5, .int x5)]) C.1 C.2.1 dX10_yearsBorne_2 hl (by decide) rfl (fun ls hl => ?_)
  refine lv_iconst (v := 0) C.1 C.2.1 dX10_yearsBorne_4 (by decide) ?_
  refine lv_istore (lv' := [(7, .int (0 : Int32)), (6, .int x5), (0, .ref (E.1 0)), (1, .int x1), (2, .int x2), (3, .int x3), (4, .int x4), (5, .int x5)]) C.1 C.2.1 dX10_yearsBorne_5 hl (by decide) rfl (fun ls hl => ?_)
  exact wX10_yearsBorne_7 C hX ea_N _ _ _ _ _ _ _ _ _ _ hf hw (lv_sub hl [2, 3, 4, 5, 6, 1, 0] rfl)
set_option maxHeartbeats 4000000 in
set_option maxRecDepth 20000 in
theorem mX10_yearsBorne {l : Launch} {E : eE} {ids : List Nat} (hX : ea_X ids) {x1 : Int32} {x2 : Int32} {x3 : Int32} {x4 : Int32} {x5 : Int32} {M : eM} {res : Int32 × eM} (hf : fX10_yearsBorne x1 x2 x3 x4 x5 M = some res) : ea_Mi l yX10_yearsBorne cX10_yearsBorne 9 (some .int) 4 94 E ids [.ref (E.1 0), .int x1, .int x2, .int x3, .int x4, .int x5] M res := by
  refine ea_goi (by decide) (Nat.le_of_ble_eq_true rfl) wc_X10_yearsBorne ?_
  intro p e s m below meth cd ls C hw hl
  exact wX10_yearsBorne_0 C hX _ _ _ _ _ _ _ _ _ hf hw hl
end SX10_yearsBorne

def fX1_columnOf_0 (a0 : Nat) (x1 : Int32) (M : eM) : Option (Int32 × eM) := if (M.1 a0 0) ≤ 0 then (some ((0 : Int32), M)) else (ea_ck (ea_nz (M.1 a0 0)) (some (x1 - x1 / (M.1 a0 0) * (M.1 a0 0), M)))
def fX1_columnOf (a0 : Nat) (x1 : Int32) (M : eM) : Option (Int32 × eM) := fX1_columnOf_0 a0 x1 M
section SX1_columnOf
variable {p : Program} {l : Launch} {e : Env} {s : State} {m : MethodId} {args : Array Value} {below : List Frame} {meth : Method} {cd : Code} {E : eE} {ids : List Nat} {res : Int32 × eM} {a0 : Nat}
set_option maxHeartbeats 4000000 in
set_option maxRecDepth 20000 in
theorem wX1_columnOf_0 (C : ea_C p s m args meth cd cX1_columnOf 2 (some .int) RX1) (hX : ea_X ids) (ho0 : ea_ok ids a0 1) : ∀ (x1 : Int32) (M : eM) (H : Heap) (locs : List Loc) (ls : Array Slot), fX1_columnOf_0 a0 x1 M = some res → ea_w E ids M s H locs → lv_has ls 2 [(0, .ref (E.1 a0)), (1, .int x1)] → W p l e (ea_rm 0 0) s m args below meth cd H locs 0 0 (MQ below (ea_Qi E ids res) args s 0 0 (ea_Ad E ids)) (F0 m 0 ls []) := by
  intro x1 M H locs ls hf  hw hl
  replace hf := (fX1_columnOf_0.eq_1 ..).symm.trans hf
  refine lv_aload_n C.1 C.2.1 dX1_columnOf_0 rfl (lv_at hl 0 rfl) ?_
  refine gf_X1_43 C hw ho0 dX1_columnOf_1 ?_
  refine lv_if_le (tgt := 16) C.1 C.2.1 dX1_columnOf_4 (by decide) (fun hc1 => ?_) (fun hc1 => ?_)
  · replace hf := ea_if_t hc1 hf
    refine lv_iconst (v := 0) C.1 C.2.1 dX1_columnOf_16 (by decide) ?_
    exact ea_iret C hw hf dX1_columnOf_17
  · replace hf := ea_if_f hc1 hf
    refine lv_iload_n C.1 C.2.1 dX1_columnOf_7 rfl (lv_at hl 1 rfl) ?_
    refine lv_aload_n C.1 C.2.1 dX1_columnOf_8 rfl (lv_at hl 0 rfl) ?_
    refine gf_X1_43 C hw ho0 dX1_columnOf_9 ?_
    obtain ⟨hc2, hf⟩ := ea_ck_s hf
    refine lv_irem C.1 C.2.1 dX1_columnOf_12 (ea_nz_s hc2) ?_
    refine lv_goto (tgt := 17) C.1 C.2.1 dX1_columnOf_13 (by decide) ?_
    exact ea_iret C hw hf dX1_columnOf_17
set_option maxHeartbeats 4000000 in
set_option maxRecDepth 20000 in
theorem mX1_columnOf {l : Launch} {E : eE} {ids : List Nat} (hX : ea_X ids) {a0 : Nat} {x1 : Int32} (ho0 : ea_ok ids a0 1) {M : eM} {res : Int32 × eM} (hf : fX1_columnOf a0 x1 M = some res) : ea_Mi l yX1_columnOf cX1_columnOf 2 (some .int) 0 0 E ids [.ref (E.1 a0), .int x1] M res := by
  refine ea_goi (by decide) (Nat.le_of_ble_eq_true rfl) wc_X1_columnOf ?_
  intro p e s m below meth cd ls C hw hl
  exact wX1_columnOf_0 C hX ho0 _ _ _ _ _ hf hw hl
end SX1_columnOf

def fX1_hangPlace_0 (x0 : Int32) (x1 : Int32) (M : eM) : Option (Int32 × eM) := some (((x0 * (6 : Int32)) + x1) * (4 : Int32), M)
def fX1_hangPlace (x0 : Int32) (x1 : Int32) (M : eM) : Option (Int32 × eM) := fX1_hangPlace_0 x0 x1 M
section SX1_hangPlace
variable {p : Program} {l : Launch} {e : Env} {s : State} {m : MethodId} {args : Array Value} {below : List Frame} {meth : Method} {cd : Code} {E : eE} {ids : List Nat} {res : Int32 × eM}
set_option maxHeartbeats 4000000 in
set_option maxRecDepth 20000 in
theorem wX1_hangPlace_0 (C : ea_C p s m args meth cd cX1_hangPlace 2 (some .int) RX1) (hX : ea_X ids) : ∀ (x0 : Int32) (x1 : Int32) (M : eM) (H : Heap) (locs : List Loc) (ls : Array Slot), fX1_hangPlace_0 x0 x1 M = some res → ea_w E ids M s H locs → lv_has ls 2 [(0, .int x0), (1, .int x1)] → W p l e (ea_rm 0 0) s m args below meth cd H locs 0 0 (MQ below (ea_Qi E ids res) args s 0 0 (ea_Ad E ids)) (F0 m 0 ls []) := by
  intro x0 x1 M H locs ls hf  hw hl
  replace hf := (fX1_hangPlace_0.eq_1 ..).symm.trans hf
  refine lv_iload_n C.1 C.2.1 dX1_hangPlace_0 rfl (lv_at hl 0 rfl) ?_
  refine lv_bipush (v := 6) C.1 C.2.1 dX1_hangPlace_1 (by decide) ?_
  refine lv_imul C.1 C.2.1 dX1_hangPlace_3 ?_
  refine lv_iload_n C.1 C.2.1 dX1_hangPlace_4 rfl (lv_at hl 1 rfl) ?_
  refine lv_iadd C.1 C.2.1 dX1_hangPlace_5 ?_
  refine lv_iconst (v := 4) C.1 C.2.1 dX1_hangPlace_6 (by decide) ?_
  refine lv_imul C.1 C.2.1 dX1_hangPlace_7 ?_
  exact ea_iret C hw hf dX1_hangPlace_8
set_option maxHeartbeats 4000000 in
set_option maxRecDepth 20000 in
theorem mX1_hangPlace {l : Launch} {E : eE} {ids : List Nat} (hX : ea_X ids) {x0 : Int32} {x1 : Int32} {M : eM} {res : Int32 × eM} (hf : fX1_hangPlace x0 x1 M = some res) : ea_Mi l yX1_hangPlace cX1_hangPlace 2 (some .int) 0 0 E ids [.int x0, .int x1] M res := by
  refine ea_goi (by decide) (Nat.le_of_ble_eq_true rfl) wc_X1_hangPlace ?_
  intro p e s m below meth cd ls C hw hl
  exact wX1_hangPlace_0 C hX _ _ _ _ _ _ hf hw hl
end SX1_hangPlace

def fX1_lightAt_0 (a0 : Nat) (x1 : Int32) (x2 : Int32) (x3 : Int32) (M : eM) : Option (Int32 × eM) := if (M.1 a0 0) ≤ (1 : Int32) then (some (x1, M)) else (ea_ck (ea_nz ((M.1 a0 0) - (1 : Int32))) (some (x1 + (((x2 - x1) * x3) / ((M.1 a0 0) - (1 : Int32))), M)))
def fX1_lightAt (a0 : Nat) (x1 : Int32) (x2 : Int32) (x3 : Int32) (M : eM) : Option (Int32 × eM) := fX1_lightAt_0 a0 x1 x2 x3 M
section SX1_lightAt
variable {p : Program} {l : Launch} {e : Env} {s : State} {m : MethodId} {args : Array Value} {below : List Frame} {meth : Method} {cd : Code} {E : eE} {ids : List Nat} {res : Int32 × eM} {a0 : Nat}
set_option maxHeartbeats 4000000 in
set_option maxRecDepth 20000 in
theorem wX1_lightAt_0 (C : ea_C p s m args meth cd cX1_lightAt 4 (some .int) RX1) (hX : ea_X ids) (ho0 : ea_ok ids a0 1) : ∀ (x1 : Int32) (x2 : Int32) (x3 : Int32) (M : eM) (H : Heap) (locs : List Loc) (ls : Array Slot), fX1_lightAt_0 a0 x1 x2 x3 M = some res → ea_w E ids M s H locs → lv_has ls 4 [(0, .ref (E.1 a0)), (1, .int x1), (2, .int x2), (3, .int x3)] → W p l e (ea_rm 0 0) s m args below meth cd H locs 0 0 (MQ below (ea_Qi E ids res) args s 0 0 (ea_Ad E ids)) (F0 m 0 ls []) := by
  intro x1 x2 x3 M H locs ls hf  hw hl
  replace hf := (fX1_lightAt_0.eq_1 ..).symm.trans hf
  refine lv_aload_n C.1 C.2.1 dX1_lightAt_0 rfl (lv_at hl 0 rfl) ?_
  refine gf_X1_43 C hw ho0 dX1_lightAt_1 ?_
  refine lv_iconst (v := 1) C.1 C.2.1 dX1_lightAt_4 (by decide) ?_
  refine lv_icmp_le (tgt := 25) C.1 C.2.1 dX1_lightAt_5 (by decide) (fun hc1 => ?_) (fun hc1 => ?_)
  · replace hf := ea_if_t hc1 hf
    refine lv_iload_n C.1 C.2.1 dX1_lightAt_25 rfl (lv_at hl 1 rfl) ?_
    exact ea_iret C hw hf dX1_lightAt_26
  · replace hf := ea_if_f hc1 hf
    refine lv_iload_n C.1 C.2.1 dX1_lightAt_8 rfl (lv_at hl 1 rfl) ?_
    refine lv_iload_n C.1 C.2.1 dX1_lightAt_9 rfl (lv_at hl 2 rfl) ?_
    refine lv_iload_n C.1 C.2.1 dX1_lightAt_10 rfl (lv_at hl 1 rfl) ?_
    refine lv_isub C.1 C.2.1 dX1_lightAt_11 ?_
    refine lv_iload_n C.1 C.2.1 dX1_lightAt_12 rfl (lv_at hl 3 rfl) ?_
    refine lv_imul C.1 C.2.1 dX1_lightAt_13 ?_
    refine lv_aload_n C.1 C.2.1 dX1_lightAt_14 rfl (lv_at hl 0 rfl) ?_
    refine gf_X1_43 C hw ho0 dX1_lightAt_15 ?_
    refine lv_iconst (v := 1) C.1 C.2.1 dX1_lightAt_18 (by decide) ?_
    refine lv_isub C.1 C.2.1 dX1_lightAt_19 ?_
    obtain ⟨hc2, hf⟩ := ea_ck_s hf
    refine lv_idiv C.1 C.2.1 dX1_lightAt_20 (ea_nz_s hc2) ?_
    refine lv_iadd C.1 C.2.1 dX1_lightAt_21 ?_
    refine lv_goto (tgt := 26) C.1 C.2.1 dX1_lightAt_22 (by decide) ?_
    exact ea_iret C hw hf dX1_lightAt_26
set_option maxHeartbeats 4000000 in
set_option maxRecDepth 20000 in
theorem mX1_lightAt {l : Launch} {E : eE} {ids : List Nat} (hX : ea_X ids) {a0 : Nat} {x1 : Int32} {x2 : Int32} {x3 : Int32} (ho0 : ea_ok ids a0 1) {M : eM} {res : Int32 × eM} (hf : fX1_lightAt a0 x1 x2 x3 M = some res) : ea_Mi l yX1_lightAt cX1_lightAt 4 (some .int) 0 0 E ids [.ref (E.1 a0), .int x1, .int x2, .int x3] M res := by
  refine ea_goi (by decide) (Nat.le_of_ble_eq_true rfl) wc_X1_lightAt ?_
  intro p e s m below meth cd ls C hw hl
  exact wX1_lightAt_0 C hX ho0 _ _ _ _ _ _ _ hf hw hl
end SX1_lightAt

def fX1_hoursOf_110 (k9 : Int32 → Int32 → Int32 → Int32 → Int32 → Int32 → Int32 → eM → Option (Int32 × eM)) (a0 : Nat) (x1 : Int32) (x2 : Int32) (x3 : Int32) (x4 : Int32) (x7 : Int32) (x9 : Int32) (t0 : Int32) (t1 : Int32) (M : eM) : Option (Int32 × eM) := k9 x1 x2 x3 x4 (t1 + t0) x9 (x7 + (1 : Int32)) M
def fX1_hoursOf_9 (a0 : Nat) : Nat → Int32 → Int32 → Int32 → Int32 → Int32 → Int32 → Int32 → eM → Option (Int32 × eM)
  | 0, _, _, _, _, _, _, _, _ => none
  | n + 1, x1, x2, x3, x4, x5, x6, x7, M => ea_ck (ea_ix x1 (ea_len (a0 + 6))) (if (M.1 (a0 + 6) x1.toNatClampNeg) ≤ x7 then (some (x5, M)) else (ea_ci (fX1_hangPlace x1 x7 M) (fun r4 M5 => ea_ck (ea_ix r4 (ea_len (a0 + 7))) (ea_lt (x6 + (M5.1 (a0 + 7) r4.toNatClampNeg)) (fun y7 => ea_lt (ea_max (0 : Int32) (y7 - (ea_max x6 x3))) (fun y9 => ea_ck (ea_ix (r4 + (1 : Int32)) (ea_len (a0 + 7))) (ea_ck (ea_ix (r4 + (2 : Int32)) (ea_len (a0 + 7))) (ea_ci (fX1_lightAt a0 (M5.1 (a0 + 7) (r4 + (1 : Int32)).toNatClampNeg) (M5.1 (a0 + 7) (r4 + (2 : Int32)).toNatClampNeg) x2 M5) (fun r14 M15 => if x4 = 0 then (fX1_hoursOf_110 (fX1_hoursOf_9 a0 n) a0 x1 x2 x3 x4 x7 y7 (y9 * r14) x5 M15) else (ea_ck (ea_ix (r4 + (3 : Int32)) (ea_len (a0 + 7))) (fX1_hoursOf_110 (fX1_hoursOf_9 a0 n) a0 x1 x2 x3 x4 x7 y7 (((y9 * r14) * (M15.1 (a0 + 7) (r4 + (3 : Int32)).toNatClampNeg)) / (100 : Int32)) x5 M15)))))))))))
def fX1_hoursOf_0 (a0 : Nat) (x1 : Int32) (x2 : Int32) (x3 : Int32) (x4 : Int32) (M : eM) : Option (Int32 × eM) := fX1_hoursOf_9 a0 ea_N x1 x2 x3 x4 (0 : Int32) (0 : Int32) (0 : Int32) M
def fX1_hoursOf (a0 : Nat) (x1 : Int32) (x2 : Int32) (x3 : Int32) (x4 : Int32) (M : eM) : Option (Int32 × eM) := fX1_hoursOf_0 a0 x1 x2 x3 x4 M
section SX1_hoursOf
variable {p : Program} {l : Launch} {e : Env} {s : State} {m : MethodId} {args : Array Value} {below : List Frame} {meth : Method} {cd : Code} {E : eE} {ids : List Nat} {res : Int32 × eM} {a0 : Nat}
set_option maxHeartbeats 4000000 in
set_option maxRecDepth 20000 in
theorem wX1_hoursOf_110 (C : ea_C p s m args meth cd cX1_hoursOf 12 (some .int) RX1) (hX : ea_X ids) (ho0 : ea_ok ids a0 1) {k9 : Int32 → Int32 → Int32 → Int32 → Int32 → Int32 → Int32 → eM → Option (Int32 × eM)} (hk9 : ∀ (x1 : Int32) (x2 : Int32) (x3 : Int32) (x4 : Int32) (x5 : Int32) (x6 : Int32) (x7 : Int32) (M : eM) (H : Heap) (locs : List Loc) (ls : Array Slot), k9 x1 x2 x3 x4 x5 x6 x7 M = some res → ea_w E ids M s H locs → lv_has ls 12 [(0, .ref (E.1 a0)), (1, .int x1), (2, .int x2), (3, .int x3), (4, .int x4), (5, .int x5), (6, .int x6), (7, .int x7)] → W p l e (ea_rm 1 23) s m args below meth cd H locs 0 0 (MQ below (ea_Qi E ids res) args s 0 0 (ea_Ad E ids)) (F0 m 9 ls [])) : ∀ (x1 : Int32) (x2 : Int32) (x3 : Int32) (x4 : Int32) (x7 : Int32) (x9 : Int32) (t0 : Int32) (t1 : Int32) (M : eM) (H : Heap) (locs : List Loc) (ls : Array Slot), fX1_hoursOf_110 k9 a0 x1 x2 x3 x4 x7 x9 t0 t1 M = some res → ea_w E ids M s H locs → lv_has ls 12 [(0, .ref (E.1 a0)), (1, .int x1), (2, .int x2), (3, .int x3), (4, .int x4), (7, .int x7), (9, .int x9)] → W p l e (ea_rm 1 23) s m args below meth cd H locs 0 0 (MQ below (ea_Qi E ids res) args s 0 0 (ea_Ad E ids)) (F0 m 110 ls [.int t0, .int t1]) := by
  intro x1 x2 x3 x4 x7 x9 t0 t1 M H locs ls hf  hw hl
  replace hf := (fX1_hoursOf_110.eq_1 ..).symm.trans hf
  refine lv_iadd C.1 C.2.1 dX1_hoursOf_110 ?_
  refine lv_istore (lv' := [(5, .int (t1 + t0)), (0, .ref (E.1 a0)), (1, .int x1), (2, .int x2), (3, .int x3), (4, .int x4), (7, .int x7), (9, .int x9)]) C.1 C.2.1 dX1_hoursOf_111 hl (by decide) rfl (fun ls hl => ?_)
  refine lv_iload C.1 C.2.1 dX1_hoursOf_113 (lv_at hl 7 rfl) ?_
  refine lv_istore (lv' := [(6, .int x9), (5, .int (t1 + t0)), (0, .ref (E.1 a0)), (1, .int x1), (2, .int x2), (3, .int x3), (4, .int x4), (7, .int x7), (9, .int x9)]) C.1 C.2.1 dX1_hoursOf_115 hl (by decide) rfl (fun ls hl => ?_)
  refine lv_iinc (v := x7 + (1 : Int32)) (lv' := [(7, .int (x7 + (1 : Int32))), (6, .int x9), (5, .int (t1 + t0)), (0, .ref (E.1 a0)), (1, .int x1), (2, .int x2), (3, .int x3), (4, .int x4), (9, .int x9)]) C.1 C.2.1 dX1_hoursOf_117 hl (k := 7) rfl rfl (by decide) rfl (fun ls hl => ?_)
  refine lv_goto (tgt := 9) C.1 C.2.1 dX1_hoursOf_120 (by decide) ?_
  exact hk9 _ _ _ _ _ _ _ _ _ _ _ hf hw (lv_sub hl [3, 4, 5, 6, 7, 2, 1, 0] rfl)
set_option maxHeartbeats 4000000 in
set_option maxRecDepth 20000 in
theorem wX1_hoursOf_9 (C : ea_C p s m args meth cd cX1_hoursOf 12 (some .int) RX1) (hX : ea_X ids) (ho0 : ea_ok ids a0 1) : ∀ (n : Nat) (x1 : Int32) (x2 : Int32) (x3 : Int32) (x4 : Int32) (x5 : Int32) (x6 : Int32) (x7 : Int32) (M : eM) (H : Heap) (locs : List Loc) (ls : Array Slot), fX1_hoursOf_9 a0 n x1 x2 x3 x4 x5 x6 x7 M = some res → ea_w E ids M s H locs → lv_has ls 12 [(0, .ref (E.1 a0)), (1, .int x1), (2, .int x2), (3, .int x3), (4, .int x4), (5, .int x5), (6, .int x6), (7, .int x7)] → W p l e (ea_rm 1 23) s m args below meth cd H locs 0 0 (MQ below (ea_Qi E ids res) args s 0 0 (ea_Ad E ids)) (F0 m 9 ls []) := by
  intro n
  induction n with
  | zero => intro x1 x2 x3 x4 x5 x6 x7 M H locs ls hf; cases hf
  | succ n ih =>
    intro x1 x2 x3 x4 x5 x6 x7 M H locs ls hf  hw hl
    replace hf := (fX1_hoursOf_9.eq_2 ..).symm.trans hf
    refine lv_iload C.1 C.2.1 dX1_hoursOf_9 (lv_at hl 7 rfl) ?_
    refine lv_aload_n C.1 C.2.1 dX1_hoursOf_11 rfl (lv_at hl 0 rfl) ?_
    refine gf_X1_28 C hw ho0 dX1_hoursOf_12 ?_
    refine lv_iload_n C.1 C.2.1 dX1_hoursOf_15 rfl (lv_at hl 1 rfl) ?_
    obtain ⟨hc1, hf⟩ := ea_ck_s hf
    refine ea_iald C hw (ok_1_13 ho0) hc1 dX1_hoursOf_16 ?_
    refine lv_icmp_ge (tgt := 123) C.1 C.2.1 dX1_hoursOf_17 (by decide) (fun hc2 => ?_) (fun hc2 => ?_)
    · replace hf := ea_if_t hc2 hf
      refine lv_iload C.1 C.2.1 dX1_hoursOf_123 (lv_at hl 5 rfl) ?_
      exact ea_iret C hw hf dX1_hoursOf_125
    · replace hf := ea_if_f hc2 hf
      refine lv_iload_n C.1 C.2.1 dX1_hoursOf_20 rfl (lv_at hl 1 rfl) ?_
      refine lv_iload C.1 C.2.1 dX1_hoursOf_21 (lv_at hl 7 rfl) ?_
      obtain ⟨r4, M5, he3, hf⟩ := ea_ci_s hf
      refine ea_runi2 hw (cl_X1_85 C hw (As := [.int x1, .int x7]) (rest := []) (mX1_hangPlace (l := l) (E := E) (ids := ids) hX he3) (by decide) rfl hl.1 rfl (Nat.le_of_ble_eq_true rfl) dX1_hoursOf_23 ⟨Nat.le_refl _, Nat.le_refl _⟩) (fun H locs hw => ?_)
      refine lv_istore (lv' := [(8, .int r4), (0, .ref (E.1 a0)), (1, .int x1), (2, .int x2), (3, .int x3), (4, .int x4), (5, .int x5), (6, .int x6), (7, .int x7)]) C.1 C.2.1 dX1_hoursOf_26 hl (by decide) rfl (fun ls hl => ?_)
      refine lv_iload C.1 C.2.1 dX1_hoursOf_28 (lv_at hl 7 rfl) ?_
      refine lv_aload_n C.1 C.2.1 dX1_hoursOf_30 rfl (lv_at hl 1 rfl) ?_
      refine gf_X1_31 C hw ho0 dX1_hoursOf_31 ?_
      refine lv_iload C.1 C.2.1 dX1_hoursOf_34 (lv_at hl 0 rfl) ?_
      obtain ⟨hc6, hf⟩ := ea_ck_s hf
      refine ea_iald C hw (ok_1_14 ho0) hc6 dX1_hoursOf_36 ?_
      refine lv_iadd C.1 C.2.1 dX1_hoursOf_37 ?_
      obtain ⟨y7, ey8, hf⟩ := ea_lt_s hf
      refine ea_topi ey8 ?_
      refine lv_istore (lv' := [(9, .int y7), (8, .int r4), (0, .ref (E.1 a0)), (1, .int x1), (2, .int x2), (3, .int x3), (4, .int x4), (5, .int x5), (6, .int x6), (7, .int x7)]) C.1 C.2.1 dX1_hoursOf_38 hl (by decide) rfl (fun ls hl => ?_)
      refine lv_iconst (v := 0) C.1 C.2.1 dX1_hoursOf_40 (by decide) ?_
      refine lv_iload C.1 C.2.1 dX1_hoursOf_41 (lv_at hl 0 rfl) ?_
      refine lv_iload C.1 C.2.1 dX1_hoursOf_43 (lv_at hl 8 rfl) ?_
      refine lv_iload_n C.1 C.2.1 dX1_hoursOf_45 rfl (lv_at hl 5 rfl) ?_
      refine mm_X1_93 C hl.1 (by decide) (Nat.le_of_ble_eq_true rfl) ⟨Nat.le_refl _, Nat.le_refl _⟩ dX1_hoursOf_46 ?_
      refine lv_isub C.1 C.2.1 dX1_hoursOf_49 ?_
      refine mm_X1_93 C hl.1 (by decide) (Nat.le_of_ble_eq_true rfl) ⟨Nat.le_refl _, Nat.le_refl _⟩ dX1_hoursOf_50 ?_
      obtain ⟨y9, ey10, hf⟩ := ea_lt_s hf
      refine ea_topi ey10 ?_
      refine lv_istore (lv' := [(10, .int y9), (9, .int y7), (8, .int r4), (0, .ref (E.1 a0)), (1, .int x1), (2, .int x2), (3, .int x3), (4, .int x4), (5, .int x5), (6, .int x6), (7, .int x7)]) C.1 C.2.1 dX1_hoursOf_53 hl (by decide) rfl (fun ls hl => ?_)
      refine lv_iload C.1 C.2.1 dX1_hoursOf_55 (lv_at hl 0 rfl) ?_
      refine lv_aload_n C.1 C.2.1 dX1_hoursOf_57 rfl (lv_at hl 3 rfl) ?_
      refine lv_aload_n C.1 C.2.1 dX1_hoursOf_58 rfl (lv_at hl 3 rfl) ?_
      refine gf_X1_31 C hw ho0 dX1_hoursOf_59 ?_
      refine lv_iload C.1 C.2.1 dX1_hoursOf_62 (lv_at hl 2 rfl) ?_
      refine lv_iconst (v := 1) C.1 C.2.1 dX1_hoursOf_64 (by decide) ?_
      refine lv_iadd C.1 C.2.1 dX1_hoursOf_65 ?_
      obtain ⟨hc11, hf⟩ := ea_ck_s hf
      refine ea_iald C hw (ok_1_14 ho0) hc11 dX1_hoursOf_66 ?_
      refine lv_aload_n C.1 C.2.1 dX1_hoursOf_67 rfl (lv_at hl 3 rfl) ?_
      refine gf_X1_31 C hw ho0 dX1_hoursOf_68 ?_
      refine lv_iload C.1 C.2.1 dX1_hoursOf_71 (lv_at hl 2 rfl) ?_
      refine lv_iconst (v := 2) C.1 C.2.1 dX1_hoursOf_73 (by decide) ?_
      refine lv_iadd C.1 C.2.1 dX1_hoursOf_74 ?_
      obtain ⟨hc12, hf⟩ := ea_ck_s hf
      refine ea_iald C hw (ok_1_14 ho0) hc12 dX1_hoursOf_75 ?_
      refine lv_iload_n C.1 C.2.1 dX1_hoursOf_76 rfl (lv_at hl 5 rfl) ?_
      obtain ⟨r14, M15, he13, hf⟩ := ea_ci_s hf
      refine ea_runi2 hw (cl_X1_98 C hw ho0 (As := [.int (M5.1 (a0 + 7) (r4 + (1 : Int32)).toNatClampNeg), .int (M5.1 (a0 + 7) (r4 + (2 : Int32)).toNatClampNeg), .int x2]) (rest := [.int y9]) (mX1_lightAt (l := l) (E := E) (ids := ids) hX ho0 he13) (by decide) rfl hl.1 rfl (Nat.le_of_ble_eq_true rfl) dX1_hoursOf_77 ⟨Nat.le_refl _, Nat.le_refl _⟩) (fun H locs hw => ?_)
      refine lv_imul C.1 C.2.1 dX1_hoursOf_80 ?_
      refine lv_istore (lv' := [(11, .int (y9 * r14)), (10, .int y9), (9, .int y7), (8, .int r4), (0, .ref (E.1 a0)), (1, .int x1), (2, .int x2), (3, .int x3), (4, .int x4), (5, .int x5), (6, .int x6), (7, .int x7)]) C.1 C.2.1 dX1_hoursOf_81 hl (by decide) rfl (fun ls hl => ?_)
      refine lv_iload C.1 C.2.1 dX1_hoursOf_83 (lv_at hl 9 rfl) ?_
      refine lv_iload C.1 C.2.1 dX1_hoursOf_85 (lv_at hl 8 rfl) ?_
      refine lv_if_ne (tgt := 95) C.1 C.2.1 dX1_hoursOf_87 (by decide) (fun hc16 => ?_) (fun hc16 => ?_)
      · replace hf := ea_if_f hc16 hf
        refine lv_iload C.1 C.2.1 dX1_hoursOf_95 (lv_at hl 0 rfl) ?_
        refine lv_aload_n C.1 C.2.1 dX1_hoursOf_97 rfl (lv_at hl 4 rfl) ?_
        refine gf_X1_31 C hw ho0 dX1_hoursOf_98 ?_
        refine lv_iload C.1 C.2.1 dX1_hoursOf_101 (lv_at hl 3 rfl) ?_
        refine lv_iconst (v := 3) C.1 C.2.1 dX1_hoursOf_103 (by decide) ?_
        refine lv_iadd C.1 C.2.1 dX1_hoursOf_104 ?_
        obtain ⟨hc17, hf⟩ := ea_ck_s hf
        refine ea_iald C hw (ok_1_14 ho0) hc17 dX1_hoursOf_105 ?_
        refine lv_imul C.1 C.2.1 dX1_hoursOf_106 ?_
        refine lv_bipush (v := 100) C.1 C.2.1 dX1_hoursOf_107 (by decide) ?_
        refine lv_idiv C.1 C.2.1 dX1_hoursOf_109 (by decide) ?_
        exact wX1_hoursOf_110 C hX ho0 ih _ _ _ _ _ _ _ _ _ _ _ _ hf hw (lv_sub hl [4, 5, 6, 7, 8, 11, 2] rfl)
      · replace hf := ea_if_t hc16 hf
        refine lv_iload C.1 C.2.1 dX1_hoursOf_90 (lv_at hl 0 rfl) ?_
        refine lv_goto (tgt := 110) C.1 C.2.1 dX1_hoursOf_92 (by decide) ?_
        exact wX1_hoursOf_110 C hX ho0 ih _ _ _ _ _ _ _ _ _ _ _ _ hf hw (lv_sub hl [4, 5, 6, 7, 8, 11, 2] rfl)
set_option maxHeartbeats 4000000 in
set_option maxRecDepth 20000 in
theorem wX1_hoursOf_0 (C : ea_C p s m args meth cd cX1_hoursOf 12 (some .int) RX1) (hX : ea_X ids) (ho0 : ea_ok ids a0 1) : ∀ (x1 : Int32) (x2 : Int32) (x3 : Int32) (x4 : Int32) (M : eM) (H : Heap) (locs : List Loc) (ls : Array Slot), fX1_hoursOf_0 a0 x1 x2 x3 x4 M = some res → ea_w E ids M s H locs → lv_has ls 12 [(0, .ref (E.1 a0)), (1, .int x1), (2, .int x2), (3, .int x3), (4, .int x4)] → W p l e (ea_rm 1 23) s m args below meth cd H locs 0 0 (MQ below (ea_Qi E ids res) args s 0 0 (ea_Ad E ids)) (F0 m 0 ls []) := by
  intro x1 x2 x3 x4 M H locs ls hf  hw hl
  replace hf := (fX1_hoursOf_0.eq_1 ..).symm.trans hf
  refine lv_iconst (v := 0) C.1 C.2.1 dX1_hoursOf_0 (by decide) ?_
  refine lv_istore (lv' := [(5, .int (0 : Int32)), (0, .ref (E.1 a0)), (1, .int x1), (2, .int x2), (3, .int x3), (4, .int x4)]) C.1 C.2.1 dX1_hoursOf_1 hl (by decide) rfl (fun ls hl => ?_)
  refine lv_iconst (v := 0) C.1 C.2.1 dX1_hoursOf_3 (by decide) ?_
  refine lv_istore (lv' := [(6, .int (0 : Int32)), (5, .int (0 : Int32)), (0, .ref (E.1 a0)), (1, .int x1), (2, .int x2), (3, .int x3), (4, .int x4)]) C.1 C.2.1 dX1_hoursOf_4 hl (by decide) rfl (fun ls hl => ?_)
  refine lv_iconst (v := 0) C.1 C.2.1 dX1_hoursOf_6 (by decide) ?_
  refine lv_istore (lv' := [(7, .int (0 : Int32)), (6, .int (0 : Int32)), (5, .int (0 : Int32)), (0, .ref (E.1 a0)), (1, .int x1), (2, .int x2), (3, .int x3), (4, .int x4)]) C.1 C.2.1 dX1_hoursOf_7 hl (by decide) rfl (fun ls hl => ?_)
  exact wX1_hoursOf_9 C hX ho0 ea_N _ _ _ _ _ _ _ _ _ _ _ hf hw (lv_sub hl [3, 4, 5, 6, 7, 2, 1, 0] rfl)
set_option maxHeartbeats 4000000 in
set_option maxRecDepth 20000 in
theorem mX1_hoursOf {l : Launch} {E : eE} {ids : List Nat} (hX : ea_X ids) {a0 : Nat} {x1 : Int32} {x2 : Int32} {x3 : Int32} {x4 : Int32} (ho0 : ea_ok ids a0 1) {M : eM} {res : Int32 × eM} (hf : fX1_hoursOf a0 x1 x2 x3 x4 M = some res) : ea_Mi l yX1_hoursOf cX1_hoursOf 12 (some .int) 1 23 E ids [.ref (E.1 a0), .int x1, .int x2, .int x3, .int x4] M res := by
  refine ea_goi (by decide) (Nat.le_of_ble_eq_true rfl) wc_X1_hoursOf ?_
  intro p e s m below meth cd ls C hw hl
  exact wX1_hoursOf_0 C hX ho0 _ _ _ _ _ _ _ _ hf hw hl
end SX1_hoursOf

def fX1_yearFrom_0 (a0 : Nat) (x1 : Int32) (M : eM) : Option (Int32 × eM) := ea_ci (fX10_isWithin x1 (1 : Int32) (M.1 a0 6) M) (fun r2 M3 => if r2 = 0 then (some ((0 : Int32), M3)) else (ea_ck (ea_ix (x1 - (1 : Int32)) (ea_len (a0 + 2))) (some (M3.1 (a0 + 2) (x1 - (1 : Int32)).toNatClampNeg, M3))))
def fX1_yearFrom (a0 : Nat) (x1 : Int32) (M : eM) : Option (Int32 × eM) := fX1_yearFrom_0 a0 x1 M
section SX1_yearFrom
variable {p : Program} {l : Launch} {e : Env} {s : State} {m : MethodId} {args : Array Value} {below : List Frame} {meth : Method} {cd : Code} {E : eE} {ids : List Nat} {res : Int32 × eM} {a0 : Nat}
set_option maxHeartbeats 4000000 in
set_option maxRecDepth 20000 in
theorem wX1_yearFrom_0 (C : ea_C p s m args meth cd cX1_yearFrom 2 (some .int) RX1) (hX : ea_X ids) (ho0 : ea_ok ids a0 1) : ∀ (x1 : Int32) (M : eM) (H : Heap) (locs : List Loc) (ls : Array Slot), fX1_yearFrom_0 a0 x1 M = some res → ea_w E ids M s H locs → lv_has ls 2 [(0, .ref (E.1 a0)), (1, .int x1)] → W p l e (ea_rm 1 22) s m args below meth cd H locs 0 0 (MQ below (ea_Qi E ids res) args s 0 0 (ea_Ad E ids)) (F0 m 0 ls []) := by
  intro x1 M H locs ls hf  hw hl
  replace hf := (fX1_yearFrom_0.eq_1 ..).symm.trans hf
  refine lv_iload_n C.1 C.2.1 dX1_yearFrom_0 rfl (lv_at hl 1 rfl) ?_
  refine lv_iconst (v := 1) C.1 C.2.1 dX1_yearFrom_1 (by decide) ?_
  refine lv_aload_n C.1 C.2.1 dX1_yearFrom_2 rfl (lv_at hl 0 rfl) ?_
  refine gf_X1_65 C hw ho0 dX1_yearFrom_3 ?_
  obtain ⟨r2, M3, he1, hf⟩ := ea_ci_s hf
  refine ea_runi2 hw (cl_X1_81 C hw (As := [.int x1, .int (1 : Int32), .int (M.1 a0 6)]) (rest := []) (mX10_isWithin (l := l) (E := E) (ids := ids) hX he1) (by decide) rfl hl.1 rfl (Nat.le_of_ble_eq_true rfl) dX1_yearFrom_6 ⟨Nat.le_refl _, Nat.le_refl _⟩) (fun H locs hw => ?_)
  refine lv_if_eq (tgt := 23) C.1 C.2.1 dX1_yearFrom_9 (by decide) (fun hc4 => ?_) (fun hc4 => ?_)
  · replace hf := ea_if_t hc4 hf
    refine lv_iconst (v := 0) C.1 C.2.1 dX1_yearFrom_23 (by decide) ?_
    exact ea_iret C hw hf dX1_yearFrom_24
  · replace hf := ea_if_f hc4 hf
    refine lv_aload_n C.1 C.2.1 dX1_yearFrom_12 rfl (lv_at hl 0 rfl) ?_
    refine gf_X1_15 C hw ho0 dX1_yearFrom_13 ?_
    refine lv_iload_n C.1 C.2.1 dX1_yearFrom_16 rfl (lv_at hl 1 rfl) ?_
    refine lv_iconst (v := 1) C.1 C.2.1 dX1_yearFrom_17 (by decide) ?_
    refine lv_isub C.1 C.2.1 dX1_yearFrom_18 ?_
    obtain ⟨hc5, hf⟩ := ea_ck_s hf
    refine ea_iald C hw (ok_1_7 ho0) hc5 dX1_yearFrom_19 ?_
    refine lv_goto (tgt := 24) C.1 C.2.1 dX1_yearFrom_20 (by decide) ?_
    exact ea_iret C hw hf dX1_yearFrom_24
set_option maxHeartbeats 4000000 in
set_option maxRecDepth 20000 in
theorem mX1_yearFrom {l : Launch} {E : eE} {ids : List Nat} (hX : ea_X ids) {a0 : Nat} {x1 : Int32} (ho0 : ea_ok ids a0 1) {M : eM} {res : Int32 × eM} (hf : fX1_yearFrom a0 x1 M = some res) : ea_Mi l yX1_yearFrom cX1_yearFrom 2 (some .int) 1 22 E ids [.ref (E.1 a0), .int x1] M res := by
  refine ea_goi (by decide) (Nat.le_of_ble_eq_true rfl) wc_X1_yearFrom ?_
  intro p e s m below meth cd ls C hw hl
  exact wX1_yearFrom_0 C hX ho0 _ _ _ _ _ hf hw hl
end SX1_yearFrom

def fX3_addSight_0 (a0 : Nat) (x1 : Int32) (x2 : Int32) (M : eM) : Option (eM) := if (22 : Int32) ≤ (M.1 a0 10) then (some M) else (ea_ck (ea_ix (M.1 a0 10) (ea_len (a0 + 6))) (ea_ck (ea_ix ((ea_pI M (a0 + 6) ((M.1 a0 10).toNatClampNeg) x1).1 a0 10) (ea_len (a0 + 7))) (some (ea_pI (ea_pI (ea_pI M (a0 + 6) ((M.1 a0 10).toNatClampNeg) x1) (a0 + 7) (((ea_pI M (a0 + 6) ((M.1 a0 10).toNatClampNeg) x1).1 a0 10).toNatClampNeg) x2) a0 10 (((ea_pI (ea_pI M (a0 + 6) ((M.1 a0 10).toNatClampNeg) x1) (a0 + 7) (((ea_pI M (a0 + 6) ((M.1 a0 10).toNatClampNeg) x1).1 a0 10).toNatClampNeg) x2).1 a0 10) + (1 : Int32))))))
def fX3_addSight (a0 : Nat) (x1 : Int32) (x2 : Int32) (M : eM) : Option (eM) := fX3_addSight_0 a0 x1 x2 M
section SX3_addSight
variable {p : Program} {l : Launch} {e : Env} {s : State} {m : MethodId} {args : Array Value} {below : List Frame} {meth : Method} {cd : Code} {E : eE} {ids : List Nat} {res : eM} {a0 : Nat}
set_option maxHeartbeats 4000000 in
set_option maxRecDepth 20000 in
theorem wX3_addSight_0 (C : ea_C p s m args meth cd cX3_addSight 3 none RX3) (hX : ea_X ids) (ho0 : ea_ok ids a0 3) : ∀ (x1 : Int32) (x2 : Int32) (M : eM) (H : Heap) (locs : List Loc) (ls : Array Slot), fX3_addSight_0 a0 x1 x2 M = some res → ea_w E ids M s H locs → lv_has ls 3 [(0, .ref (E.1 a0)), (1, .int x1), (2, .int x2)] → W p l e (ea_rm 0 0) s m args below meth cd H locs 0 0 (MQ below (ea_Qv E ids res) args s 0 0 (ea_Ad E ids)) (F0 m 0 ls []) := by
  intro x1 x2 M H locs ls hf  hw hl
  replace hf := (fX3_addSight_0.eq_1 ..).symm.trans hf
  refine lv_aload_n C.1 C.2.1 dX3_addSight_0 rfl (lv_at hl 0 rfl) ?_
  refine gf_X3_84 C hw ho0 dX3_addSight_1 ?_
  refine lv_bipush (v := 22) C.1 C.2.1 dX3_addSight_4 (by decide) ?_
  refine lv_icmp_ge (tgt := 39) C.1 C.2.1 dX3_addSight_6 (by decide) (fun hc1 => ?_) (fun hc1 => ?_)
  · replace hf := ea_if_t hc1 hf
    exact ea_vret C hw hf dX3_addSight_39
  · replace hf := ea_if_f hc1 hf
    refine lv_aload_n C.1 C.2.1 dX3_addSight_9 rfl (lv_at hl 0 rfl) ?_
    refine gf_X3_25 C hw ho0 dX3_addSight_10 ?_
    refine lv_aload_n C.1 C.2.1 dX3_addSight_13 rfl (lv_at hl 0 rfl) ?_
    refine gf_X3_84 C hw ho0 dX3_addSight_14 ?_
    refine lv_iload_n C.1 C.2.1 dX3_addSight_17 rfl (lv_at hl 1 rfl) ?_
    obtain ⟨hc2, hf⟩ := ea_ck_s hf
    refine ea_iast C hw (ok_3_11 ho0) hc2 dX3_addSight_18 (fun H locs hw => ?_)
    refine lv_aload_n C.1 C.2.1 dX3_addSight_19 rfl (lv_at hl 0 rfl) ?_
    refine gf_X3_28 C hw ho0 dX3_addSight_20 ?_
    refine lv_aload_n C.1 C.2.1 dX3_addSight_23 rfl (lv_at hl 0 rfl) ?_
    refine gf_X3_84 C hw ho0 dX3_addSight_24 ?_
    refine lv_iload_n C.1 C.2.1 dX3_addSight_27 rfl (lv_at hl 2 rfl) ?_
    obtain ⟨hc3, hf⟩ := ea_ck_s hf
    refine ea_iast C hw (ok_3_12 ho0) hc3 dX3_addSight_28 (fun H locs hw => ?_)
    refine lv_aload_n C.1 C.2.1 dX3_addSight_29 rfl (lv_at hl 0 rfl) ?_
    refine lv_dup C.1 C.2.1 dX3_addSight_30 rfl ?_
    refine gf_X3_84 C hw ho0 dX3_addSight_31 ?_
    refine lv_iconst (v := 1) C.1 C.2.1 dX3_addSight_34 (by decide) ?_
    refine lv_iadd C.1 C.2.1 dX3_addSight_35 ?_
    refine pu_X3_84 C hw ho0 dX3_addSight_36 (fun H locs hw => ?_)
    exact ea_vret C hw hf dX3_addSight_39
set_option maxHeartbeats 4000000 in
set_option maxRecDepth 20000 in
theorem mX3_addSight {l : Launch} {E : eE} {ids : List Nat} (hX : ea_X ids) {a0 : Nat} {x1 : Int32} {x2 : Int32} (ho0 : ea_ok ids a0 3) {M : eM} {res : eM} (hf : fX3_addSight a0 x1 x2 M = some res) : ea_Mv l yX3_addSight cX3_addSight 3 0 0 E ids [.ref (E.1 a0), .int x1, .int x2] M res := by
  refine ea_gov (by decide) (Nat.le_of_ble_eq_true rfl) wc_X3_addSight ?_
  intro p e s m below meth cd ls C hw hl
  exact wX3_addSight_0 C hX ho0 _ _ _ _ _ _ hf hw hl
end SX3_addSight

def fX3_allow_67 (a0 : Nat) (t0 : Int32) (t1 : Int32) (M : eM) : Option (eM) := ea_ck (ea_ix t1 (ea_len (a0 + 9))) (some (ea_pI M (a0 + 9) (t1.toNatClampNeg) t0))
def fX3_allow_0 (a0 : Nat) (x1 : Int32) (x2 : Int32) (M : eM) : Option (eM) := ea_ck (ea_is (M.2.2 4 0) 1) (if (22 : Int32) ≤ (M.1 a0 10) then (some M) else (ea_ck (ea_ix (((M.1 a0 10) * (3 : Int32)) + x1) (ea_len (a0 + 8))) (if x2 ≤ (M.1 (M.2.2 4 0) 2) then (fX3_allow_67 a0 (1000000 : Int32) ((((ea_pI M (a0 + 8) ((((M.1 a0 10) * (3 : Int32)) + x1).toNatClampNeg) (((99 : Int32) - x2) - (M.1 (M.2.2 4 0) 2))).1 a0 10) * (3 : Int32)) + x1) (ea_pI M (a0 + 8) ((((M.1 a0 10) * (3 : Int32)) + x1).toNatClampNeg) (((99 : Int32) - x2) - (M.1 (M.2.2 4 0) 2)))) else (fX3_allow_67 a0 (((99 : Int32) - x2) + (M.1 (M.2.2 4 0) 2)) ((((ea_pI M (a0 + 8) ((((M.1 a0 10) * (3 : Int32)) + x1).toNatClampNeg) (((99 : Int32) - x2) - (M.1 (M.2.2 4 0) 2))).1 a0 10) * (3 : Int32)) + x1) (ea_pI M (a0 + 8) ((((M.1 a0 10) * (3 : Int32)) + x1).toNatClampNeg) (((99 : Int32) - x2) - (M.1 (M.2.2 4 0) 2)))))))
def fX3_allow (a0 : Nat) (x1 : Int32) (x2 : Int32) (M : eM) : Option (eM) := fX3_allow_0 a0 x1 x2 M
section SX3_allow
variable {p : Program} {l : Launch} {e : Env} {s : State} {m : MethodId} {args : Array Value} {below : List Frame} {meth : Method} {cd : Code} {E : eE} {ids : List Nat} {res : eM} {a0 : Nat}
set_option maxHeartbeats 4000000 in
set_option maxRecDepth 20000 in
theorem wX3_allow_67 (C : ea_C p s m args meth cd cX3_allow 4 none RX3) (hX : ea_X ids) (ho0 : ea_ok ids a0 3) : ∀ (t0 : Int32) (t1 : Int32) (M : eM) (H : Heap) (locs : List Loc) (ls : Array Slot), fX3_allow_67 a0 t0 t1 M = some res → ea_w E ids M s H locs → lv_has ls 4 [] → W p l e (ea_rm 0 0) s m args below meth cd H locs 0 0 (MQ below (ea_Qv E ids res) args s 0 0 (ea_Ad E ids)) (F0 m 67 ls [.int t0, .int t1, .ref (E.1 (a0 + 9))]) := by
  intro t0 t1 M H locs ls hf  hw hl
  replace hf := (fX3_allow_67.eq_1 ..).symm.trans hf
  obtain ⟨hc1, hf⟩ := ea_ck_s hf
  refine ea_iast C hw (ok_3_14 ho0) hc1 dX3_allow_67 (fun H locs hw => ?_)
  exact ea_vret C hw hf dX3_allow_68
set_option maxHeartbeats 4000000 in
set_option maxRecDepth 20000 in
theorem wX3_allow_0 (C : ea_C p s m args meth cd cX3_allow 4 none RX3) (hX : ea_X ids) (ho0 : ea_ok ids a0 3) : ∀ (x1 : Int32) (x2 : Int32) (M : eM) (H : Heap) (locs : List Loc) (ls : Array Slot), fX3_allow_0 a0 x1 x2 M = some res → ea_w E ids M s H locs → lv_has ls 4 [(0, .ref (E.1 a0)), (1, .int x1), (2, .int x2)] → W p l e (ea_rm 0 0) s m args below meth cd H locs 0 0 (MQ below (ea_Qv E ids res) args s 0 0 (ea_Ad E ids)) (F0 m 0 ls []) := by
  intro x1 x2 M H locs ls hf  hw hl
  replace hf := (fX3_allow_0.eq_1 ..).symm.trans hf
  refine lv_aload_n C.1 C.2.1 dX3_allow_0 rfl (lv_at hl 0 rfl) ?_
  refine gf_X3_37 C hw ho0 dX3_allow_1 ?_
  refine gf_X3_54 C hw (hX 4 9 rfl) dX3_allow_4 ?_
  obtain ⟨hc1, hf⟩ := ea_ck_s hf
  refine gf_X3_132 C hw (ea_dyn hX hc1) dX3_allow_7 ?_
  refine lv_istore_n (lv' := [(3, .int (M.1 (M.2.2 4 0) 2)), (0, .ref (E.1 a0)), (1, .int x1), (2, .int x2)]) C.1 C.2.1 dX3_allow_10 rfl hl (by decide) rfl (fun ls hl => ?_)
  refine lv_aload_n C.1 C.2.1 dX3_allow_11 rfl (lv_at hl 1 rfl) ?_
  refine gf_X3_84 C hw ho0 dX3_allow_12 ?_
  refine lv_bipush (v := 22) C.1 C.2.1 dX3_allow_15 (by decide) ?_
  refine lv_icmp_ge (tgt := 68) C.1 C.2.1 dX3_allow_17 (by decide) (fun hc2 => ?_) (fun hc2 => ?_)
  · replace hf := ea_if_t hc2 hf
    exact ea_vret C hw hf dX3_allow_68
  · replace hf := ea_if_f hc2 hf
    refine lv_aload_n C.1 C.2.1 dX3_allow_20 rfl (lv_at hl 1 rfl) ?_
    refine gf_X3_31 C hw ho0 dX3_allow_21 ?_
    refine lv_aload_n C.1 C.2.1 dX3_allow_24 rfl (lv_at hl 1 rfl) ?_
    refine gf_X3_84 C hw ho0 dX3_allow_25 ?_
    refine lv_iconst (v := 3) C.1 C.2.1 dX3_allow_28 (by decide) ?_
    refine lv_imul C.1 C.2.1 dX3_allow_29 ?_
    refine lv_iload_n C.1 C.2.1 dX3_allow_30 rfl (lv_at hl 2 rfl) ?_
    refine lv_iadd C.1 C.2.1 dX3_allow_31 ?_
    refine lv_bipush (v := 99) C.1 C.2.1 dX3_allow_32 (by decide) ?_
    refine lv_iload_n C.1 C.2.1 dX3_allow_34 rfl (lv_at hl 3 rfl) ?_
    refine lv_isub C.1 C.2.1 dX3_allow_35 ?_
    refine lv_iload_n C.1 C.2.1 dX3_allow_36 rfl (lv_at hl 0 rfl) ?_
    refine lv_isub C.1 C.2.1 dX3_allow_37 ?_
    obtain ⟨hc3, hf⟩ := ea_ck_s hf
    refine ea_iast C hw (ok_3_13 ho0) hc3 dX3_allow_38 (fun H locs hw => ?_)
    refine lv_aload_n C.1 C.2.1 dX3_allow_39 rfl (lv_at hl 1 rfl) ?_
    refine gf_X3_34 C hw ho0 dX3_allow_40 ?_
    refine lv_aload_n C.1 C.2.1 dX3_allow_43 rfl (lv_at hl 1 rfl) ?_
    refine gf_X3_84 C hw ho0 dX3_allow_44 ?_
    refine lv_iconst (v := 3) C.1 C.2.1 dX3_allow_47 (by decide) ?_
    refine lv_imul C.1 C.2.1 dX3_allow_48 ?_
    refine lv_iload_n C.1 C.2.1 dX3_allow_49 rfl (lv_at hl 2 rfl) ?_
    refine lv_iadd C.1 C.2.1 dX3_allow_50 ?_
    refine lv_iload_n C.1 C.2.1 dX3_allow_51 rfl (lv_at hl 3 rfl) ?_
    refine lv_iload_n C.1 C.2.1 dX3_allow_52 rfl (lv_at hl 0 rfl) ?_
    refine lv_icmp_le (tgt := 65) C.1 C.2.1 dX3_allow_53 (by decide) (fun hc4 => ?_) (fun hc4 => ?_)
    · replace hf := ea_if_t hc4 hf
      refine lv_ldc (v := (1000000 : Int32)) C.1 C.2.1 C.2.2.2.1 (C.2.2.2.2.1 _ wk_RX3_135) dX3_allow_65 ?_
      exact wX3_allow_67 C hX ho0 _ _ _ _ _ _ hf hw (lv_sub hl [] rfl)
    · replace hf := ea_if_f hc4 hf
      refine lv_bipush (v := 99) C.1 C.2.1 dX3_allow_56 (by decide) ?_
      refine lv_iload_n C.1 C.2.1 dX3_allow_58 rfl (lv_at hl 3 rfl) ?_
      refine lv_isub C.1 C.2.1 dX3_allow_59 ?_
      refine lv_iload_n C.1 C.2.1 dX3_allow_60 rfl (lv_at hl 0 rfl) ?_
      refine lv_iadd C.1 C.2.1 dX3_allow_61 ?_
      refine lv_goto (tgt := 67) C.1 C.2.1 dX3_allow_62 (by decide) ?_
      exact wX3_allow_67 C hX ho0 _ _ _ _ _ _ hf hw (lv_sub hl [] rfl)
set_option maxHeartbeats 4000000 in
set_option maxRecDepth 20000 in
theorem mX3_allow {l : Launch} {E : eE} {ids : List Nat} (hX : ea_X ids) {a0 : Nat} {x1 : Int32} {x2 : Int32} (ho0 : ea_ok ids a0 3) {M : eM} {res : eM} (hf : fX3_allow a0 x1 x2 M = some res) : ea_Mv l yX3_allow cX3_allow 4 0 0 E ids [.ref (E.1 a0), .int x1, .int x2] M res := by
  refine ea_gov (by decide) (Nat.le_of_ble_eq_true rfl) wc_X3_allow ?_
  intro p e s m below meth cd ls C hw hl
  exact wX3_allow_0 C hX ho0 _ _ _ _ _ _ hf hw hl
end SX3_allow

def fX8_lookShade_0 (a0 : Nat) (x1 : Int32) (x2 : Int32) (M : eM) : Option (Int32 × eM) := if x1 < 0 then (some ((-1 : Int32), M)) else (if (M.1 a0 3) ≤ x1 then (some ((-1 : Int32), M)) else (ea_ck (ea_ix (((x1 * (6 : Int32)) + (3 : Int32)) + x2) (ea_len (a0 + 1))) (some (M.1 (a0 + 1) (((x1 * (6 : Int32)) + (3 : Int32)) + x2).toNatClampNeg, M))))
def fX8_lookShade (a0 : Nat) (x1 : Int32) (x2 : Int32) (M : eM) : Option (Int32 × eM) := fX8_lookShade_0 a0 x1 x2 M
section SX8_lookShade
variable {p : Program} {l : Launch} {e : Env} {s : State} {m : MethodId} {args : Array Value} {below : List Frame} {meth : Method} {cd : Code} {E : eE} {ids : List Nat} {res : Int32 × eM} {a0 : Nat}
set_option maxHeartbeats 4000000 in
set_option maxRecDepth 20000 in
theorem wX8_lookShade_0 (C : ea_C p s m args meth cd cX8_lookShade 3 (some .int) RX8) (hX : ea_X ids) (ho0 : ea_ok ids a0 8) : ∀ (x1 : Int32) (x2 : Int32) (M : eM) (H : Heap) (locs : List Loc) (ls : Array Slot), fX8_lookShade_0 a0 x1 x2 M = some res → ea_w E ids M s H locs → lv_has ls 3 [(0, .ref (E.1 a0)), (1, .int x1), (2, .int x2)] → W p l e (ea_rm 0 0) s m args below meth cd H locs 0 0 (MQ below (ea_Qi E ids res) args s 0 0 (ea_Ad E ids)) (F0 m 0 ls []) := by
  intro x1 x2 M H locs ls hf  hw hl
  replace hf := (fX8_lookShade_0.eq_1 ..).symm.trans hf
  refine lv_iload_n C.1 C.2.1 dX8_lookShade_0 rfl (lv_at hl 1 rfl) ?_
  refine lv_if_lt (tgt := 28) C.1 C.2.1 dX8_lookShade_1 (by decide) (fun hc1 => ?_) (fun hc1 => ?_)
  · replace hf := ea_if_t hc1 hf
    refine lv_iconst (v := (-1 : Int32)) C.1 C.2.1 dX8_lookShade_28 (by decide) ?_
    exact ea_iret C hw hf dX8_lookShade_29
  · replace hf := ea_if_f hc1 hf
    refine lv_iload_n C.1 C.2.1 dX8_lookShade_4 rfl (lv_at hl 1 rfl) ?_
    refine lv_aload_n C.1 C.2.1 dX8_lookShade_5 rfl (lv_at hl 0 rfl) ?_
    refine gf_X8_21 C hw ho0 dX8_lookShade_6 ?_
    refine lv_icmp_ge (tgt := 28) C.1 C.2.1 dX8_lookShade_9 (by decide) (fun hc2 => ?_) (fun hc2 => ?_)
    · replace hf := ea_if_t hc2 hf
      refine lv_iconst (v := (-1 : Int32)) C.1 C.2.1 dX8_lookShade_28 (by decide) ?_
      exact ea_iret C hw hf dX8_lookShade_29
    · replace hf := ea_if_f hc2 hf
      refine lv_aload_n C.1 C.2.1 dX8_lookShade_12 rfl (lv_at hl 0 rfl) ?_
      refine gf_X8_11 C hw ho0 dX8_lookShade_13 ?_
      refine lv_iload_n C.1 C.2.1 dX8_lookShade_16 rfl (lv_at hl 1 rfl) ?_
      refine lv_bipush (v := 6) C.1 C.2.1 dX8_lookShade_17 (by decide) ?_
      refine lv_imul C.1 C.2.1 dX8_lookShade_19 ?_
      refine lv_iconst (v := 3) C.1 C.2.1 dX8_lookShade_20 (by decide) ?_
      refine lv_iadd C.1 C.2.1 dX8_lookShade_21 ?_
      refine lv_iload_n C.1 C.2.1 dX8_lookShade_22 rfl (lv_at hl 2 rfl) ?_
      refine lv_iadd C.1 C.2.1 dX8_lookShade_23 ?_
      obtain ⟨hc3, hf⟩ := ea_ck_s hf
      refine ea_iald C hw (ok_8_0 ho0) hc3 dX8_lookShade_24 ?_
      refine lv_goto (tgt := 29) C.1 C.2.1 dX8_lookShade_25 (by decide) ?_
      exact ea_iret C hw hf dX8_lookShade_29
set_option maxHeartbeats 4000000 in
set_option maxRecDepth 20000 in
theorem mX8_lookShade {l : Launch} {E : eE} {ids : List Nat} (hX : ea_X ids) {a0 : Nat} {x1 : Int32} {x2 : Int32} (ho0 : ea_ok ids a0 8) {M : eM} {res : Int32 × eM} (hf : fX8_lookShade a0 x1 x2 M = some res) : ea_Mi l yX8_lookShade cX8_lookShade 3 (some .int) 0 0 E ids [.ref (E.1 a0), .int x1, .int x2] M res := by
  refine ea_goi (by decide) (Nat.le_of_ble_eq_true rfl) wc_X8_lookShade ?_
  intro p e s m below meth cd ls C hw hl
  exact wX8_lookShade_0 C hX ho0 _ _ _ _ _ _ hf hw hl
end SX8_lookShade

def fX8_isSeen_0 (a0 : Nat) (x1 : Int32) (M : eM) : Option (Int32 × eM) := ea_ci (fX8_lookShade a0 x1 (0 : Int32) M) (fun r2 M3 => if r2 < 0 then (some ((0 : Int32), M3)) else (some ((1 : Int32), M3)))
def fX8_isSeen (a0 : Nat) (x1 : Int32) (M : eM) : Option (Int32 × eM) := fX8_isSeen_0 a0 x1 M
section SX8_isSeen
variable {p : Program} {l : Launch} {e : Env} {s : State} {m : MethodId} {args : Array Value} {below : List Frame} {meth : Method} {cd : Code} {E : eE} {ids : List Nat} {res : Int32 × eM} {a0 : Nat}
set_option maxHeartbeats 4000000 in
set_option maxRecDepth 20000 in
theorem wX8_isSeen_0 (C : ea_C p s m args meth cd cX8_isSeen 2 (some .boolean) RX8) (hX : ea_X ids) (ho0 : ea_ok ids a0 8) : ∀ (x1 : Int32) (M : eM) (H : Heap) (locs : List Loc) (ls : Array Slot), fX8_isSeen_0 a0 x1 M = some res → ea_w E ids M s H locs → lv_has ls 2 [(0, .ref (E.1 a0)), (1, .int x1)] → W p l e (ea_rm 1 22) s m args below meth cd H locs 0 0 (MQ below (ea_Qi E ids res) args s 0 0 (ea_Ad E ids)) (F0 m 0 ls []) := by
  intro x1 M H locs ls hf  hw hl
  replace hf := (fX8_isSeen_0.eq_1 ..).symm.trans hf
  refine lv_aload_n C.1 C.2.1 dX8_isSeen_0 rfl (lv_at hl 0 rfl) ?_
  refine lv_iload_n C.1 C.2.1 dX8_isSeen_1 rfl (lv_at hl 1 rfl) ?_
  refine lv_iconst (v := 0) C.1 C.2.1 dX8_isSeen_2 (by decide) ?_
  obtain ⟨r2, M3, he1, hf⟩ := ea_ci_s hf
  refine ea_runi2 hw (cl_X8_47 C hw ho0 (As := [.int x1, .int (0 : Int32)]) (rest := []) (mX8_lookShade (l := l) (E := E) (ids := ids) hX ho0 he1) (by decide) rfl hl.1 rfl (Nat.le_of_ble_eq_true rfl) dX8_isSeen_3 ⟨Nat.le_refl _, Nat.le_refl _⟩) (fun H locs hw => ?_)
  refine lv_if_lt (tgt := 13) C.1 C.2.1 dX8_isSeen_6 (by decide) (fun hc4 => ?_) (fun hc4 => ?_)
  · replace hf := ea_if_t hc4 hf
    refine lv_iconst (v := 0) C.1 C.2.1 dX8_isSeen_13 (by decide) ?_
    exact ea_zret C hw (by decide) hf dX8_isSeen_14
  · replace hf := ea_if_f hc4 hf
    refine lv_iconst (v := 1) C.1 C.2.1 dX8_isSeen_9 (by decide) ?_
    refine lv_goto (tgt := 14) C.1 C.2.1 dX8_isSeen_10 (by decide) ?_
    exact ea_zret C hw (by decide) hf dX8_isSeen_14
set_option maxHeartbeats 4000000 in
set_option maxRecDepth 20000 in
theorem mX8_isSeen {l : Launch} {E : eE} {ids : List Nat} (hX : ea_X ids) {a0 : Nat} {x1 : Int32} (ho0 : ea_ok ids a0 8) {M : eM} {res : Int32 × eM} (hf : fX8_isSeen a0 x1 M = some res) : ea_Mi l yX8_isSeen cX8_isSeen 2 (some .boolean) 1 22 E ids [.ref (E.1 a0), .int x1] M res := by
  refine ea_goi (by decide) (Nat.le_of_ble_eq_true rfl) wc_X8_isSeen ?_
  intro p e s m below meth cd ls C hw hl
  exact wX8_isSeen_0 C hX ho0 _ _ _ _ _ hf hw hl
end SX8_isSeen

def fX8_isTriedOf_0 (a0 : Nat) (x1 : Int32) (x2 : Int32) (x3 : Int32) (M : eM) : Option (Int32 × eM) := ea_ck (ea_ix (x1 * (6 : Int32)) (ea_len (a0 + 2))) (if x3 < (M.1 (a0 + 2) (x1 * (6 : Int32)).toNatClampNeg) then (some ((0 : Int32), M)) else (ea_ck (ea_ix ((x1 * (6 : Int32)) + (1 : Int32)) (ea_len (a0 + 2))) (if (M.1 (a0 + 2) ((x1 * (6 : Int32)) + (1 : Int32)).toNatClampNeg) = x2 then (some ((1 : Int32), M)) else (some ((0 : Int32), M)))))
def fX8_isTriedOf (a0 : Nat) (x1 : Int32) (x2 : Int32) (x3 : Int32) (M : eM) : Option (Int32 × eM) := fX8_isTriedOf_0 a0 x1 x2 x3 M
section SX8_isTriedOf
variable {p : Program} {l : Launch} {e : Env} {s : State} {m : MethodId} {args : Array Value} {below : List Frame} {meth : Method} {cd : Code} {E : eE} {ids : List Nat} {res : Int32 × eM} {a0 : Nat}
set_option maxHeartbeats 4000000 in
set_option maxRecDepth 20000 in
theorem wX8_isTriedOf_0 (C : ea_C p s m args meth cd cX8_isTriedOf 4 (some .boolean) RX8) (hX : ea_X ids) (ho0 : ea_ok ids a0 8) : ∀ (x1 : Int32) (x2 : Int32) (x3 : Int32) (M : eM) (H : Heap) (locs : List Loc) (ls : Array Slot), fX8_isTriedOf_0 a0 x1 x2 x3 M = some res → ea_w E ids M s H locs → lv_has ls 4 [(0, .ref (E.1 a0)), (1, .int x1), (2, .int x2), (3, .int x3)] → W p l e (ea_rm 0 0) s m args below meth cd H locs 0 0 (MQ below (ea_Qi E ids res) args s 0 0 (ea_Ad E ids)) (F0 m 0 ls []) := by
  intro x1 x2 x3 M H locs ls hf  hw hl
  replace hf := (fX8_isTriedOf_0.eq_1 ..).symm.trans hf
  refine lv_aload_n C.1 C.2.1 dX8_isTriedOf_0 rfl (lv_at hl 0 rfl) ?_
  refine gf_X8_15 C hw ho0 dX8_isTriedOf_1 ?_
  refine lv_iload_n C.1 C.2.1 dX8_isTriedOf_4 rfl (lv_at hl 1 rfl) ?_
  refine lv_bipush (v := 6) C.1 C.2.1 dX8_isTriedOf_5 (by decide) ?_
  refine lv_imul C.1 C.2.1 dX8_isTriedOf_7 ?_
  obtain ⟨hc1, hf⟩ := ea_ck_s hf
  refine ea_iald C hw (ok_8_1 ho0) hc1 dX8_isTriedOf_8 ?_
  refine lv_iload_n C.1 C.2.1 dX8_isTriedOf_9 rfl (lv_at hl 3 rfl) ?_
  refine lv_icmp_gt (tgt := 32) C.1 C.2.1 dX8_isTriedOf_10 (by decide) (fun hc2 => ?_) (fun hc2 => ?_)
  · replace hf := ea_if_t hc2 hf
    refine lv_iconst (v := 0) C.1 C.2.1 dX8_isTriedOf_32 (by decide) ?_
    exact ea_zret C hw (by decide) hf dX8_isTriedOf_33
  · replace hf := ea_if_f hc2 hf
    refine lv_aload_n C.1 C.2.1 dX8_isTriedOf_13 rfl (lv_at hl 0 rfl) ?_
    refine gf_X8_15 C hw ho0 dX8_isTriedOf_14 ?_
    refine lv_iload_n C.1 C.2.1 dX8_isTriedOf_17 rfl (lv_at hl 1 rfl) ?_
    refine lv_bipush (v := 6) C.1 C.2.1 dX8_isTriedOf_18 (by decide) ?_
    refine lv_imul C.1 C.2.1 dX8_isTriedOf_20 ?_
    refine lv_iconst (v := 1) C.1 C.2.1 dX8_isTriedOf_21 (by decide) ?_
    refine lv_iadd C.1 C.2.1 dX8_isTriedOf_22 ?_
    obtain ⟨hc3, hf⟩ := ea_ck_s hf
    refine ea_iald C hw (ok_8_1 ho0) hc3 dX8_isTriedOf_23 ?_
    refine lv_iload_n C.1 C.2.1 dX8_isTriedOf_24 rfl (lv_at hl 2 rfl) ?_
    refine lv_icmp_ne (tgt := 32) C.1 C.2.1 dX8_isTriedOf_25 (by decide) (fun hc4 => ?_) (fun hc4 => ?_)
    · replace hf := ea_if_f hc4 hf
      refine lv_iconst (v := 0) C.1 C.2.1 dX8_isTriedOf_32 (by decide) ?_
      exact ea_zret C hw (by decide) hf dX8_isTriedOf_33
    · replace hf := ea_if_t hc4 hf
      refine lv_iconst (v := 1) C.1 C.2.1 dX8_isTriedOf_28 (by decide) ?_
      refine lv_goto (tgt := 33) C.1 C.2.1 dX8_isTriedOf_29 (by decide) ?_
      exact ea_zret C hw (by decide) hf dX8_isTriedOf_33
set_option maxHeartbeats 4000000 in
set_option maxRecDepth 20000 in
theorem mX8_isTriedOf {l : Launch} {E : eE} {ids : List Nat} (hX : ea_X ids) {a0 : Nat} {x1 : Int32} {x2 : Int32} {x3 : Int32} (ho0 : ea_ok ids a0 8) {M : eM} {res : Int32 × eM} (hf : fX8_isTriedOf a0 x1 x2 x3 M = some res) : ea_Mi l yX8_isTriedOf cX8_isTriedOf 4 (some .boolean) 0 0 E ids [.ref (E.1 a0), .int x1, .int x2, .int x3] M res := by
  refine ea_goi (by decide) (Nat.le_of_ble_eq_true rfl) wc_X8_isTriedOf ?_
  intro p e s m below meth cd ls C hw hl
  exact wX8_isTriedOf_0 C hX ho0 _ _ _ _ _ _ _ hf hw hl
end SX8_isTriedOf

def fX8_latestLook_60 (k8 : Int32 → Int32 → Int32 → Int32 → eM → Option (Int32 × eM)) (a0 : Nat) (x1 : Int32) (x2 : Int32) (x3 : Int32) (x4 : Int32) (M : eM) : Option (Int32 × eM) := k8 x1 x2 x3 (x4 + (-1 : Int32)) M
def fX8_latestLook_8 (a0 : Nat) : Nat → Int32 → Int32 → Int32 → Int32 → eM → Option (Int32 × eM)
  | 0, _, _, _, _, _ => none
  | n + 1, x1, x2, x3, x4, M => if x4 < 0 then (some ((-1 : Int32), M)) else (ea_ck (ea_ix (x4 * (6 : Int32)) (ea_len (a0 + 1))) (if x3 < (M.1 (a0 + 1) (x4 * (6 : Int32)).toNatClampNeg) then (fX8_latestLook_60 (fX8_latestLook_8 a0 n) a0 x1 x2 x3 x4 M) else (ea_ck (ea_ix ((x4 * (6 : Int32)) + (1 : Int32)) (ea_len (a0 + 1))) (if (M.1 (a0 + 1) ((x4 * (6 : Int32)) + (1 : Int32)).toNatClampNeg) = x1 then (ea_ck (ea_ix ((x4 * (6 : Int32)) + (2 : Int32)) (ea_len (a0 + 1))) (if (M.1 (a0 + 1) ((x4 * (6 : Int32)) + (2 : Int32)).toNatClampNeg) = x2 then (some (x4, M)) else (fX8_latestLook_60 (fX8_latestLook_8 a0 n) a0 x1 x2 x3 x4 M))) else (fX8_latestLook_60 (fX8_latestLook_8 a0 n) a0 x1 x2 x3 x4 M)))))
def fX8_latestLook_0 (a0 : Nat) (x1 : Int32) (x2 : Int32) (x3 : Int32) (M : eM) : Option (Int32 × eM) := fX8_latestLook_8 a0 ea_N x1 x2 x3 ((M.1 a0 3) - (1 : Int32)) M
def fX8_latestLook (a0 : Nat) (x1 : Int32) (x2 : Int32) (x3 : Int32) (M : eM) : Option (Int32 × eM) := fX8_latestLook_0 a0 x1 x2 x3 M
section SX8_latestLook
variable {p : Program} {l : Launch} {e : Env} {s : State} {m : MethodId} {args : Array Value} {below : List Frame} {meth : Method} {cd : Code} {E : eE} {ids : List Nat} {res : Int32 × eM} {a0 : Nat}
set_option maxHeartbeats 4000000 in
set_option maxRecDepth 20000 in
theorem wX8_latestLook_60 (C : ea_C p s m args meth cd cX8_latestLook 6 (some .int) RX8) (hX : ea_X ids) (ho0 : ea_ok ids a0 8) {k8 : Int32 → Int32 → Int32 → Int32 → eM → Option (Int32 × eM)} (hk8 : ∀ (x1 : Int32) (x2 : Int32) (x3 : Int32) (x4 : Int32) (M : eM) (H : Heap) (locs : List Loc) (ls : Array Slot), k8 x1 x2 x3 x4 M = some res → ea_w E ids M s H locs → lv_has ls 6 [(0, .ref (E.1 a0)), (1, .int x1), (2, .int x2), (3, .int x3), (4, .int x4)] → W p l e (ea_rm 0 0) s m args below meth cd H locs 0 0 (MQ below (ea_Qi E ids res) args s 0 0 (ea_Ad E ids)) (F0 m 8 ls [])) : ∀ (x1 : Int32) (x2 : Int32) (x3 : Int32) (x4 : Int32) (M : eM) (H : Heap) (locs : List Loc) (ls : Array Slot), fX8_latestLook_60 k8 a0 x1 x2 x3 x4 M = some res → ea_w E ids M s H locs → lv_has ls 6 [(0, .ref (E.1 a0)), (1, .int x1), (2, .int x2), (3, .int x3), (4, .int x4)] → W p l e (ea_rm 0 0) s m args below meth cd H locs 0 0 (MQ below (ea_Qi E ids res) args s 0 0 (ea_Ad E ids)) (F0 m 60 ls []) := by
  intro x1 x2 x3 x4 M H locs ls hf  hw hl
  replace hf := (fX8_latestLook_60.eq_1 ..).symm.trans hf
  refine lv_iinc (v := x4 + (-1 : Int32)) (lv' := [(4, .int (x4 + (-1 : Int32))), (0, .ref (E.1 a0)), (1, .int x1), (2, .int x2), (3, .int x3)]) C.1 C.2.1 dX8_latestLook_60 hl (k := 4) rfl rfl (by decide) rfl (fun ls hl => ?_)
  refine lv_goto (tgt := 8) C.1 C.2.1 dX8_latestLook_63 (by decide) ?_
  exact hk8 _ _ _ _ _ _ _ _ hf hw (lv_sub hl [1, 2, 3, 4, 0] rfl)
set_option maxHeartbeats 4000000 in
set_option maxRecDepth 20000 in
theorem wX8_latestLook_8 (C : ea_C p s m args meth cd cX8_latestLook 6 (some .int) RX8) (hX : ea_X ids) (ho0 : ea_ok ids a0 8) : ∀ (n : Nat) (x1 : Int32) (x2 : Int32) (x3 : Int32) (x4 : Int32) (M : eM) (H : Heap) (locs : List Loc) (ls : Array Slot), fX8_latestLook_8 a0 n x1 x2 x3 x4 M = some res → ea_w E ids M s H locs → lv_has ls 6 [(0, .ref (E.1 a0)), (1, .int x1), (2, .int x2), (3, .int x3), (4, .int x4)] → W p l e (ea_rm 0 0) s m args below meth cd H locs 0 0 (MQ below (ea_Qi E ids res) args s 0 0 (ea_Ad E ids)) (F0 m 8 ls []) := by
  intro n
  induction n with
  | zero => intro x1 x2 x3 x4 M H locs ls hf; cases hf
  | succ n ih =>
    intro x1 x2 x3 x4 M H locs ls hf  hw hl
    replace hf := (fX8_latestLook_8.eq_2 ..).symm.trans hf
    refine lv_iload C.1 C.2.1 dX8_latestLook_8 (lv_at hl 4 rfl) ?_
    refine lv_if_lt (tgt := 66) C.1 C.2.1 dX8_latestLook_10 (by decide) (fun hc1 => ?_) (fun hc1 => ?_)
    · replace hf := ea_if_t hc1 hf
      refine lv_iconst (v := (-1 : Int32)) C.1 C.2.1 dX8_latestLook_66 (by decide) ?_
      exact ea_iret C hw hf dX8_latestLook_67
    · replace hf := ea_if_f hc1 hf
      refine lv_iload C.1 C.2.1 dX8_latestLook_13 (lv_at hl 4 rfl) ?_
      refine lv_bipush (v := 6) C.1 C.2.1 dX8_latestLook_15 (by decide) ?_
      refine lv_imul C.1 C.2.1 dX8_latestLook_17 ?_
      refine lv_istore (lv' := [(5, .int (x4 * (6 : Int32))), (0, .ref (E.1 a0)), (1, .int x1), (2, .int x2), (3, .int x3), (4, .int x4)]) C.1 C.2.1 dX8_latestLook_18 hl (by decide) rfl (fun ls hl => ?_)
      refine lv_aload_n C.1 C.2.1 dX8_latestLook_20 rfl (lv_at hl 1 rfl) ?_
      refine gf_X8_11 C hw ho0 dX8_latestLook_21 ?_
      refine lv_iload C.1 C.2.1 dX8_latestLook_24 (lv_at hl 0 rfl) ?_
      obtain ⟨hc2, hf⟩ := ea_ck_s hf
      refine ea_iald C hw (ok_8_0 ho0) hc2 dX8_latestLook_26 ?_
      refine lv_iload_n C.1 C.2.1 dX8_latestLook_27 rfl (lv_at hl 4 rfl) ?_
      refine lv_icmp_gt (tgt := 60) C.1 C.2.1 dX8_latestLook_28 (by decide) (fun hc3 => ?_) (fun hc3 => ?_)
      · replace hf := ea_if_t hc3 hf
        exact wX8_latestLook_60 C hX ho0 ih _ _ _ _ _ _ _ _ hf hw (lv_sub hl [1, 2, 3, 4, 5] rfl)
      · replace hf := ea_if_f hc3 hf
        refine lv_aload_n C.1 C.2.1 dX8_latestLook_31 rfl (lv_at hl 1 rfl) ?_
        refine gf_X8_11 C hw ho0 dX8_latestLook_32 ?_
        refine lv_iload C.1 C.2.1 dX8_latestLook_35 (lv_at hl 0 rfl) ?_
        refine lv_iconst (v := 1) C.1 C.2.1 dX8_latestLook_37 (by decide) ?_
        refine lv_iadd C.1 C.2.1 dX8_latestLook_38 ?_
        obtain ⟨hc4, hf⟩ := ea_ck_s hf
        refine ea_iald C hw (ok_8_0 ho0) hc4 dX8_latestLook_39 ?_
        refine lv_iload_n C.1 C.2.1 dX8_latestLook_40 rfl (lv_at hl 2 rfl) ?_
        refine lv_icmp_ne (tgt := 60) C.1 C.2.1 dX8_latestLook_41 (by decide) (fun hc5 => ?_) (fun hc5 => ?_)
        · replace hf := ea_if_f hc5 hf
          exact wX8_latestLook_60 C hX ho0 ih _ _ _ _ _ _ _ _ hf hw (lv_sub hl [1, 2, 3, 4, 5] rfl)
        · replace hf := ea_if_t hc5 hf
          refine lv_aload_n C.1 C.2.1 dX8_latestLook_44 rfl (lv_at hl 1 rfl) ?_
          refine gf_X8_11 C hw ho0 dX8_latestLook_45 ?_
          refine lv_iload C.1 C.2.1 dX8_latestLook_48 (lv_at hl 0 rfl) ?_
          refine lv_iconst (v := 2) C.1 C.2.1 dX8_latestLook_50 (by decide) ?_
          refine lv_iadd C.1 C.2.1 dX8_latestLook_51 ?_
          obtain ⟨hc6, hf⟩ := ea_ck_s hf
          refine ea_iald C hw (ok_8_0 ho0) hc6 dX8_latestLook_52 ?_
          refine lv_iload_n C.1 C.2.1 dX8_latestLook_53 rfl (lv_at hl 3 rfl) ?_
          refine lv_icmp_ne (tgt := 60) C.1 C.2.1 dX8_latestLook_54 (by decide) (fun hc7 => ?_) (fun hc7 => ?_)
          · replace hf := ea_if_f hc7 hf
            exact wX8_latestLook_60 C hX ho0 ih _ _ _ _ _ _ _ _ hf hw (lv_sub hl [1, 2, 3, 4, 5] rfl)
          · replace hf := ea_if_t hc7 hf
            refine lv_iload C.1 C.2.1 dX8_latestLook_57 (lv_at hl 5 rfl) ?_
            exact ea_iret C hw hf dX8_latestLook_59
set_option maxHeartbeats 4000000 in
set_option maxRecDepth 20000 in
theorem wX8_latestLook_0 (C : ea_C p s m args meth cd cX8_latestLook 6 (some .int) RX8) (hX : ea_X ids) (ho0 : ea_ok ids a0 8) : ∀ (x1 : Int32) (x2 : Int32) (x3 : Int32) (M : eM) (H : Heap) (locs : List Loc) (ls : Array Slot), fX8_latestLook_0 a0 x1 x2 x3 M = some res → ea_w E ids M s H locs → lv_has ls 6 [(0, .ref (E.1 a0)), (1, .int x1), (2, .int x2), (3, .int x3)] → W p l e (ea_rm 0 0) s m args below meth cd H locs 0 0 (MQ below (ea_Qi E ids res) args s 0 0 (ea_Ad E ids)) (F0 m 0 ls []) := by
  intro x1 x2 x3 M H locs ls hf  hw hl
  replace hf := (fX8_latestLook_0.eq_1 ..).symm.trans hf
  refine lv_aload_n C.1 C.2.1 dX8_latestLook_0 rfl (lv_at hl 0 rfl) ?_
  refine gf_X8_21 C hw ho0 dX8_latestLook_1 ?_
  refine lv_iconst (v := 1) C.1 C.2.1 dX8_latestLook_4 (by decide) ?_
  refine lv_isub C.1 C.2.1 dX8_latestLook_5 ?_
  refine lv_istore (lv' := [(4, .int ((M.1 a0 3) - (1 : Int32))), (0, .ref (E.1 a0)), (1, .int x1), (2, .int x2), (3, .int x3)]) C.1 C.2.1 dX8_latestLook_6 hl (by decide) rfl (fun ls hl => ?_)
  exact wX8_latestLook_8 C hX ho0 ea_N _ _ _ _ _ _ _ _ hf hw (lv_sub hl [1, 2, 3, 4, 0] rfl)
set_option maxHeartbeats 4000000 in
set_option maxRecDepth 20000 in
theorem mX8_latestLook {l : Launch} {E : eE} {ids : List Nat} (hX : ea_X ids) {a0 : Nat} {x1 : Int32} {x2 : Int32} {x3 : Int32} (ho0 : ea_ok ids a0 8) {M : eM} {res : Int32 × eM} (hf : fX8_latestLook a0 x1 x2 x3 M = some res) : ea_Mi l yX8_latestLook cX8_latestLook 6 (some .int) 0 0 E ids [.ref (E.1 a0), .int x1, .int x2, .int x3] M res := by
  refine ea_goi (by decide) (Nat.le_of_ble_eq_true rfl) wc_X8_latestLook ?_
  intro p e s m below meth cd ls C hw hl
  exact wX8_latestLook_0 C hX ho0 _ _ _ _ _ _ _ hf hw hl
end SX8_latestLook

def fX8_triedHours_0 (a0 : Nat) (x1 : Int32) (M : eM) : Option (Int32 × eM) := ea_ck (ea_ix ((x1 * (6 : Int32)) + (2 : Int32)) (ea_len (a0 + 2))) (some (M.1 (a0 + 2) ((x1 * (6 : Int32)) + (2 : Int32)).toNatClampNeg, M))
def fX8_triedHours (a0 : Nat) (x1 : Int32) (M : eM) : Option (Int32 × eM) := fX8_triedHours_0 a0 x1 M
section SX8_triedHours
variable {p : Program} {l : Launch} {e : Env} {s : State} {m : MethodId} {args : Array Value} {below : List Frame} {meth : Method} {cd : Code} {E : eE} {ids : List Nat} {res : Int32 × eM} {a0 : Nat}
set_option maxHeartbeats 4000000 in
set_option maxRecDepth 20000 in
theorem wX8_triedHours_0 (C : ea_C p s m args meth cd cX8_triedHours 2 (some .int) RX8) (hX : ea_X ids) (ho0 : ea_ok ids a0 8) : ∀ (x1 : Int32) (M : eM) (H : Heap) (locs : List Loc) (ls : Array Slot), fX8_triedHours_0 a0 x1 M = some res → ea_w E ids M s H locs → lv_has ls 2 [(0, .ref (E.1 a0)), (1, .int x1)] → W p l e (ea_rm 0 0) s m args below meth cd H locs 0 0 (MQ below (ea_Qi E ids res) args s 0 0 (ea_Ad E ids)) (F0 m 0 ls []) := by
  intro x1 M H locs ls hf  hw hl
  replace hf := (fX8_triedHours_0.eq_1 ..).symm.trans hf
  refine lv_aload_n C.1 C.2.1 dX8_triedHours_0 rfl (lv_at hl 0 rfl) ?_
  refine gf_X8_15 C hw ho0 dX8_triedHours_1 ?_
  refine lv_iload_n C.1 C.2.1 dX8_triedHours_4 rfl (lv_at hl 1 rfl) ?_
  refine lv_bipush (v := 6) C.1 C.2.1 dX8_triedHours_5 (by decide) ?_
  refine lv_imul C.1 C.2.1 dX8_triedHours_7 ?_
  refine lv_iconst (v := 2) C.1 C.2.1 dX8_triedHours_8 (by decide) ?_
  refine lv_iadd C.1 C.2.1 dX8_triedHours_9 ?_
  obtain ⟨hc1, hf⟩ := ea_ck_s hf
  refine ea_iald C hw (ok_8_1 ho0) hc1 dX8_triedHours_10 ?_
  exact ea_iret C hw hf dX8_triedHours_11
set_option maxHeartbeats 4000000 in
set_option maxRecDepth 20000 in
theorem mX8_triedHours {l : Launch} {E : eE} {ids : List Nat} (hX : ea_X ids) {a0 : Nat} {x1 : Int32} (ho0 : ea_ok ids a0 8) {M : eM} {res : Int32 × eM} (hf : fX8_triedHours a0 x1 M = some res) : ea_Mi l yX8_triedHours cX8_triedHours 2 (some .int) 0 0 E ids [.ref (E.1 a0), .int x1] M res := by
  refine ea_goi (by decide) (Nat.le_of_ble_eq_true rfl) wc_X8_triedHours ?_
  intro p e s m below meth cd ls C hw hl
  exact wX8_triedHours_0 C hX ho0 _ _ _ _ _ hf hw hl
end SX8_triedHours

def fX8_latestRight_41 (k7 : Int32 → Int32 → Int32 → eM → Option (Int32 × eM)) (a0 : Nat) (x1 : Int32) (x2 : Int32) (x3 : Int32) (M : eM) : Option (Int32 × eM) := k7 x1 x2 (x3 + (-1 : Int32)) M
def fX8_latestRight_7 (a0 : Nat) : Nat → Int32 → Int32 → Int32 → eM → Option (Int32 × eM)
  | 0, _, _, _, _ => none
  | n + 1, x1, x2, x3, M => if x3 < 0 then (some ((-1 : Int32), M)) else (ea_ck (ea_ix (x3 * (6 : Int32)) (ea_len (a0 + 3))) (if x2 < (M.1 (a0 + 3) (x3 * (6 : Int32)).toNatClampNeg) then (fX8_latestRight_41 (fX8_latestRight_7 a0 n) a0 x1 x2 x3 M) else (ea_ck (ea_ix ((x3 * (6 : Int32)) + (1 : Int32)) (ea_len (a0 + 3))) (if (M.1 (a0 + 3) ((x3 * (6 : Int32)) + (1 : Int32)).toNatClampNeg) = x1 then (some (x3, M)) else (fX8_latestRight_41 (fX8_latestRight_7 a0 n) a0 x1 x2 x3 M)))))
def fX8_latestRight_0 (a0 : Nat) (x1 : Int32) (x2 : Int32) (M : eM) : Option (Int32 × eM) := fX8_latestRight_7 a0 ea_N x1 x2 ((M.1 a0 5) - (1 : Int32)) M
def fX8_latestRight (a0 : Nat) (x1 : Int32) (x2 : Int32) (M : eM) : Option (Int32 × eM) := fX8_latestRight_0 a0 x1 x2 M
section SX8_latestRight
variable {p : Program} {l : Launch} {e : Env} {s : State} {m : MethodId} {args : Array Value} {below : List Frame} {meth : Method} {cd : Code} {E : eE} {ids : List Nat} {res : Int32 × eM} {a0 : Nat}
set_option maxHeartbeats 4000000 in
set_option maxRecDepth 20000 in
theorem wX8_latestRight_41 (C : ea_C p s m args meth cd cX8_latestRight 4 (some .int) RX8) (hX : ea_X ids) (ho0 : ea_ok ids a0 8) {k7 : Int32 → Int32 → Int32 → eM → Option (Int32 × eM)} (hk7 : ∀ (x1 : Int32) (x2 : Int32) (x3 : Int32) (M : eM) (H : Heap) (locs : List Loc) (ls : Array Slot), k7 x1 x2 x3 M = some res → ea_w E ids M s H locs → lv_has ls 4 [(0, .ref (E.1 a0)), (1, .int x1), (2, .int x2), (3, .int x3)] → W p l e (ea_rm 0 0) s m args below meth cd H locs 0 0 (MQ below (ea_Qi E ids res) args s 0 0 (ea_Ad E ids)) (F0 m 7 ls [])) : ∀ (x1 : Int32) (x2 : Int32) (x3 : Int32) (M : eM) (H : Heap) (locs : List Loc) (ls : Array Slot), fX8_latestRight_41 k7 a0 x1 x2 x3 M = some res → ea_w E ids M s H locs → lv_has ls 4 [(0, .ref (E.1 a0)), (1, .int x1), (2, .int x2), (3, .int x3)] → W p l e (ea_rm 0 0) s m args below meth cd H locs 0 0 (MQ below (ea_Qi E ids res) args s 0 0 (ea_Ad E ids)) (F0 m 41 ls []) := by
  intro x1 x2 x3 M H locs ls hf  hw hl
  replace hf := (fX8_latestRight_41.eq_1 ..).symm.trans hf
  refine lv_iinc (v := x3 + (-1 : Int32)) (lv' := [(3, .int (x3 + (-1 : Int32))), (0, .ref (E.1 a0)), (1, .int x1), (2, .int x2)]) C.1 C.2.1 dX8_latestRight_41 hl (k := 3) rfl rfl (by decide) rfl (fun ls hl => ?_)
  refine lv_goto (tgt := 7) C.1 C.2.1 dX8_latestRight_44 (by decide) ?_
  exact hk7 _ _ _ _ _ _ _ hf hw (lv_sub hl [1, 2, 3, 0] rfl)
set_option maxHeartbeats 4000000 in
set_option maxRecDepth 20000 in
theorem wX8_latestRight_7 (C : ea_C p s m args meth cd cX8_latestRight 4 (some .int) RX8) (hX : ea_X ids) (ho0 : ea_ok ids a0 8) : ∀ (n : Nat) (x1 : Int32) (x2 : Int32) (x3 : Int32) (M : eM) (H : Heap) (locs : List Loc) (ls : Array Slot), fX8_latestRight_7 a0 n x1 x2 x3 M = some res → ea_w E ids M s H locs → lv_has ls 4 [(0, .ref (E.1 a0)), (1, .int x1), (2, .int x2), (3, .int x3)] → W p l e (ea_rm 0 0) s m args below meth cd H locs 0 0 (MQ below (ea_Qi E ids res) args s 0 0 (ea_Ad E ids)) (F0 m 7 ls []) := by
  intro n
  induction n with
  | zero => intro x1 x2 x3 M H locs ls hf; cases hf
  | succ n ih =>
    intro x1 x2 x3 M H locs ls hf  hw hl
    replace hf := (fX8_latestRight_7.eq_2 ..).symm.trans hf
    refine lv_iload_n C.1 C.2.1 dX8_latestRight_7 rfl (lv_at hl 3 rfl) ?_
    refine lv_if_lt (tgt := 47) C.1 C.2.1 dX8_latestRight_8 (by decide) (fun hc1 => ?_) (fun hc1 => ?_)
    · replace hf := ea_if_t hc1 hf
      refine lv_iconst (v := (-1 : Int32)) C.1 C.2.1 dX8_latestRight_47 (by decide) ?_
      exact ea_iret C hw hf dX8_latestRight_48
    · replace hf := ea_if_f hc1 hf
      refine lv_aload_n C.1 C.2.1 dX8_latestRight_11 rfl (lv_at hl 0 rfl) ?_
      refine gf_X8_18 C hw ho0 dX8_latestRight_12 ?_
      refine lv_iload_n C.1 C.2.1 dX8_latestRight_15 rfl (lv_at hl 3 rfl) ?_
      refine lv_bipush (v := 6) C.1 C.2.1 dX8_latestRight_16 (by decide) ?_
      refine lv_imul C.1 C.2.1 dX8_latestRight_18 ?_
      obtain ⟨hc2, hf⟩ := ea_ck_s hf
      refine ea_iald C hw (ok_8_2 ho0) hc2 dX8_latestRight_19 ?_
      refine lv_iload_n C.1 C.2.1 dX8_latestRight_20 rfl (lv_at hl 2 rfl) ?_
      refine lv_icmp_gt (tgt := 41) C.1 C.2.1 dX8_latestRight_21 (by decide) (fun hc3 => ?_) (fun hc3 => ?_)
      · replace hf := ea_if_t hc3 hf
        exact wX8_latestRight_41 C hX ho0 ih _ _ _ _ _ _ _ hf hw (lv_sub hl [0, 1, 2, 3] rfl)
      · replace hf := ea_if_f hc3 hf
        refine lv_aload_n C.1 C.2.1 dX8_latestRight_24 rfl (lv_at hl 0 rfl) ?_
        refine gf_X8_18 C hw ho0 dX8_latestRight_25 ?_
        refine lv_iload_n C.1 C.2.1 dX8_latestRight_28 rfl (lv_at hl 3 rfl) ?_
        refine lv_bipush (v := 6) C.1 C.2.1 dX8_latestRight_29 (by decide) ?_
        refine lv_imul C.1 C.2.1 dX8_latestRight_31 ?_
        refine lv_iconst (v := 1) C.1 C.2.1 dX8_latestRight_32 (by decide) ?_
        refine lv_iadd C.1 C.2.1 dX8_latestRight_33 ?_
        obtain ⟨hc4, hf⟩ := ea_ck_s hf
        refine ea_iald C hw (ok_8_2 ho0) hc4 dX8_latestRight_34 ?_
        refine lv_iload_n C.1 C.2.1 dX8_latestRight_35 rfl (lv_at hl 1 rfl) ?_
        refine lv_icmp_ne (tgt := 41) C.1 C.2.1 dX8_latestRight_36 (by decide) (fun hc5 => ?_) (fun hc5 => ?_)
        · replace hf := ea_if_f hc5 hf
          exact wX8_latestRight_41 C hX ho0 ih _ _ _ _ _ _ _ hf hw (lv_sub hl [0, 1, 2, 3] rfl)
        · replace hf := ea_if_t hc5 hf
          refine lv_iload_n C.1 C.2.1 dX8_latestRight_39 rfl (lv_at hl 3 rfl) ?_
          exact ea_iret C hw hf dX8_latestRight_40
set_option maxHeartbeats 4000000 in
set_option maxRecDepth 20000 in
theorem wX8_latestRight_0 (C : ea_C p s m args meth cd cX8_latestRight 4 (some .int) RX8) (hX : ea_X ids) (ho0 : ea_ok ids a0 8) : ∀ (x1 : Int32) (x2 : Int32) (M : eM) (H : Heap) (locs : List Loc) (ls : Array Slot), fX8_latestRight_0 a0 x1 x2 M = some res → ea_w E ids M s H locs → lv_has ls 4 [(0, .ref (E.1 a0)), (1, .int x1), (2, .int x2)] → W p l e (ea_rm 0 0) s m args below meth cd H locs 0 0 (MQ below (ea_Qi E ids res) args s 0 0 (ea_Ad E ids)) (F0 m 0 ls []) := by
  intro x1 x2 M H locs ls hf  hw hl
  replace hf := (fX8_latestRight_0.eq_1 ..).symm.trans hf
  refine lv_aload_n C.1 C.2.1 dX8_latestRight_0 rfl (lv_at hl 0 rfl) ?_
  refine gf_X8_28 C hw ho0 dX8_latestRight_1 ?_
  refine lv_iconst (v := 1) C.1 C.2.1 dX8_latestRight_4 (by decide) ?_
  refine lv_isub C.1 C.2.1 dX8_latestRight_5 ?_
  refine lv_istore_n (lv' := [(3, .int ((M.1 a0 5) - (1 : Int32))), (0, .ref (E.1 a0)), (1, .int x1), (2, .int x2)]) C.1 C.2.1 dX8_latestRight_6 rfl hl (by decide) rfl (fun ls hl => ?_)
  exact wX8_latestRight_7 C hX ho0 ea_N _ _ _ _ _ _ _ hf hw (lv_sub hl [1, 2, 3, 0] rfl)
set_option maxHeartbeats 4000000 in
set_option maxRecDepth 20000 in
theorem mX8_latestRight {l : Launch} {E : eE} {ids : List Nat} (hX : ea_X ids) {a0 : Nat} {x1 : Int32} {x2 : Int32} (ho0 : ea_ok ids a0 8) {M : eM} {res : Int32 × eM} (hf : fX8_latestRight a0 x1 x2 M = some res) : ea_Mi l yX8_latestRight cX8_latestRight 4 (some .int) 0 0 E ids [.ref (E.1 a0), .int x1, .int x2] M res := by
  refine ea_goi (by decide) (Nat.le_of_ble_eq_true rfl) wc_X8_latestRight ?_
  intro p e s m below meth cd ls C hw hl
  exact wX8_latestRight_0 C hX ho0 _ _ _ _ _ _ hf hw hl
end SX8_latestRight
