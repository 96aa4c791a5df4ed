def fX4_addYear_96 (k2 : Int32 → Int32 → eM → Option (eM)) (a1 : Nat) (x2 : Int32) (x3 : Int32) (M : eM) : Option (eM) := k2 x2 (x3 + (1 : Int32)) M
def fX4_addYear_2 (a1 : Nat) : Nat → Int32 → Int32 → eM → Option (eM)
  | 0, _, _, _ => none
  | n + 1, x2, x3, M => if (M.1 4 1) ≤ x3 then (some M) else (ea_ck (ea_ix x3 (ea_len (a1 + 3))) (if (((M.1 (a1 + 3) x3.toNatClampNeg) >>> (x2 &&& 31)) &&& (1 : Int32)) = 0 then (fX4_addYear_96 (fX4_addYear_2 a1 n) a1 x2 x3 M) else (if (nI (ea_len 71)) ≤ (M.1 70 1) then (fX4_addYear_96 (fX4_addYear_2 a1 n) a1 x2 x3 M) else (ea_ci (fX5_shadeOf (a1 + 1) x3 (0 : Int32) M) (fun r6 M7 => ea_ci (fX5_shadeOf (a1 + 1) x3 (1 : Int32) M7) (fun r9 M10 => ea_lt ((r6 * (100 : Int32)) + r9) (fun y11 => ea_ci (fX5_shadeOf (a1 + 1) x3 (2 : Int32) M10) (fun r14 M15 => ea_ck (ea_ix (M10.1 70 1) (ea_len 71)) (fX4_addYear_96 (fX4_addYear_2 a1 n) a1 x2 x3 (ea_pI (ea_pI M15 71 ((M10.1 70 1).toNatClampNeg) ((y11 * (100 : Int32)) + r14)) 70 1 (((ea_pI M15 71 ((M10.1 70 1).toNatClampNeg) ((y11 * (100 : Int32)) + r14)).1 70 1) + (1 : Int32))))))))))))
def fX4_addYear_0 (a1 : Nat) (x2 : Int32) (M : eM) : Option (eM) := fX4_addYear_2 a1 ea_N x2 (0 : Int32) M
def fX4_addYear (a1 : Nat) (x2 : Int32) (M : eM) : Option (eM) := fX4_addYear_0 a1 x2 M
section SX4_addYear
variable {p : Program} {l : Launch} {e : Env} {s : State} {m : MethodId} {args : Array Value} {below : List Frame} {meth : Method} {cd : Code} {E : eE} {ids : List Nat} {res : eM} {a1 : Nat}
set_option maxHeartbeats 4000000 in
set_option maxRecDepth 20000 in
theorem wX4_addYear_96 (C : ea_C p s m args meth cd cX4_addYear 5 none RX4) (hX : ea_X ids) (ho1 : ea_ok ids a1 3) {k2 : Int32 → Int32 → eM → Option (eM)} (hk2 : ∀ (x2 : Int32) (x3 : Int32) (M : eM) (H : Heap) (locs : List Loc) (ls : Array Slot), k2 x2 x3 M = some res → ea_w E ids M s H locs → lv_has ls 5 [(0, .ref (E.1 70)), (1, .ref (E.1 a1)), (2, .int x2), (3, .int x3)] → W p l e (ea_rm 2 43) s m args below meth cd H locs 0 0 (MQ below (ea_Qv E ids res) args s 0 0 (ea_Ad E ids)) (F0 m 2 ls [])) : ∀ (x2 : Int32) (x3 : Int32) (M : eM) (H : Heap) (locs : List Loc) (ls : Array Slot), fX4_addYear_96 k2 a1 x2 x3 M = some res → ea_w E ids M s H locs → lv_has ls 5 [(0, .ref (E.1 70)), (1, .ref (E.1 a1)), (2, .int x2), (3, .int x3)] → W p l e (ea_rm 2 43) s m args below meth cd H locs 0 0 (MQ below (ea_Qv E ids res) args s 0 0 (ea_Ad E ids)) (F0 m 96 ls []) := by
  intro x2 x3 M H locs ls hf  hw hl
  replace hf := (fX4_addYear_96.eq_1 ..).symm.trans hf
  refine lv_iinc (v := x3 + (1 : Int32)) (lv' := [(3, .int (x3 + (1 : Int32))), (0, .ref (E.1 70)), (1, .ref (E.1 a1)), (2, .int x2)]) C.1 C.2.1 dX4_addYear_96 hl (k := 3) rfl rfl (by decide) rfl (fun ls hl => ?_)
  refine lv_goto (tgt := 2) C.1 C.2.1 dX4_addYear_99 (by decide) ?_
  exact hk2 _ _ _ _ _ _ hf hw (lv_sub hl [1, 2, 3, 0] rfl)
set_option maxHeartbeats 4000000 in
set_option maxRecDepth 20000 in
theorem wX4_addYear_2 (C : ea_C p s m args meth cd cX4_addYear 5 none RX4) (hX : ea_X ids) (ho1 : ea_ok ids a1 3) : ∀ (n : Nat) (x2 : Int32) (x3 : Int32) (M : eM) (H : Heap) (locs : List Loc) (ls : Array Slot), fX4_addYear_2 a1 n x2 x3 M = some res → ea_w E ids M s H locs → lv_has ls 5 [(0, .ref (E.1 70)), (1, .ref (E.1 a1)), (2, .int x2), (3, .int x3)] → W p l e (ea_rm 2 43) s m args below meth cd H locs 0 0 (MQ below (ea_Qv E ids res) args s 0 0 (ea_Ad E ids)) (F0 m 2 ls []) := by
  intro n
  induction n with
  | zero => intro x2 x3 M H locs ls hf; cases hf
  | succ n ih =>
    intro x2 x3 M H locs ls hf  hw hl
    replace hf := (fX4_addYear_2.eq_2 ..).symm.trans hf
    refine lv_iload_n C.1 C.2.1 dX4_addYear_2 rfl (lv_at hl 3 rfl) ?_
    refine lv_aload_n C.1 C.2.1 dX4_addYear_3 rfl (lv_at hl 1 rfl) ?_
    refine gf_X4_21 C hw ho1 dX4_addYear_4 ?_
    refine gf_X4_66 C hw (hX 4 9 rfl) dX4_addYear_7 ?_
    refine lv_icmp_ge (tgt := 102) C.1 C.2.1 dX4_addYear_10 (by decide) (fun hc1 => ?_) (fun hc1 => ?_)
    · replace hf := ea_if_t hc1 hf
      exact ea_vret C hw hf dX4_addYear_102
    · replace hf := ea_if_f hc1 hf
      refine lv_aload_n C.1 C.2.1 dX4_addYear_13 rfl (lv_at hl 1 rfl) ?_
      refine gf_X4_69 C hw ho1 dX4_addYear_14 ?_
      refine lv_iload_n C.1 C.2.1 dX4_addYear_17 rfl (lv_at hl 3 rfl) ?_
      obtain ⟨hc2, hf⟩ := ea_ck_s hf
      refine ea_iald C hw (ok_3_3 ho1) hc2 dX4_addYear_18 ?_
      refine lv_iload_n C.1 C.2.1 dX4_addYear_19 rfl (lv_at hl 2 rfl) ?_
      refine lv_ishr C.1 C.2.1 dX4_addYear_20 ?_
      refine lv_iconst (v := 1) C.1 C.2.1 dX4_addYear_21 (by decide) ?_
      refine lv_iand C.1 C.2.1 dX4_addYear_22 ?_
      refine lv_if_eq (tgt := 96) C.1 C.2.1 dX4_addYear_23 (by decide) (fun hc3 => ?_) (fun hc3 => ?_)
      · replace hf := ea_if_t hc3 hf
        exact wX4_addYear_96 C hX ho1 ih _ _ _ _ _ _ hf hw (lv_sub hl [0, 1, 2, 3] rfl)
      · replace hf := ea_if_f hc3 hf
        refine lv_aload_n C.1 C.2.1 dX4_addYear_26 rfl (lv_at hl 0 rfl) ?_
        refine gf_X4_17 C hw (hX 70 4 rfl) dX4_addYear_27 ?_
        refine lv_aload_n C.1 C.2.1 dX4_addYear_30 rfl (lv_at hl 0 rfl) ?_
        refine gf_X4_11 C hw (hX 70 4 rfl) dX4_addYear_31 ?_
        refine W.eq (g2 := F0 m 34 ls [.ref (E.1 71), .int (M.1 70 1)]) rfl ?_
        refine ea_alen C hw (show ea_ok ids 71 20 from ok_4_0 (hX 70 4 rfl)) (by decide) dX4_addYear_34 ?_
        refine lv_icmp_ge (tgt := 96) C.1 C.2.1 dX4_addYear_35 (by decide) (fun hc4 => ?_) (fun hc4 => ?_)
        · replace hf := ea_if_t hc4 hf
          exact wX4_addYear_96 C hX ho1 ih _ _ _ _ _ _ hf hw (lv_sub hl [0, 1, 2, 3] rfl)
        · replace hf := ea_if_f hc4 hf
          refine lv_aload_n C.1 C.2.1 dX4_addYear_38 rfl (lv_at hl 1 rfl) ?_
          refine gf_X4_45 C hw ho1 dX4_addYear_39 ?_
          refine lv_iload_n C.1 C.2.1 dX4_addYear_42 rfl (lv_at hl 3 rfl) ?_
          refine lv_iconst (v := 0) C.1 C.2.1 dX4_addYear_43 (by decide) ?_
          obtain ⟨r6, M7, he5, hf⟩ := ea_ci_s hf
          refine ea_runi2 hw (cl_X4_72 C hw (ok_3_2 ho1) (As := [.int x3, .int (0 : Int32)]) (rest := []) (mX5_shadeOf (l := l) (E := E) (ids := ids) hX (ok_3_2 ho1) he5) (by decide) rfl hl.1 rfl (Nat.le_of_ble_eq_true rfl) dX4_addYear_44 ⟨Nat.le_refl _, Nat.le_refl _⟩) (fun H locs hw => ?_)
          refine lv_bipush (v := 100) C.1 C.2.1 dX4_addYear_47 (by decide) ?_
          refine lv_imul C.1 C.2.1 dX4_addYear_49 ?_
          refine lv_aload_n C.1 C.2.1 dX4_addYear_50 rfl (lv_at hl 1 rfl) ?_
          refine gf_X4_45 C hw ho1 dX4_addYear_51 ?_
          refine lv_iload_n C.1 C.2.1 dX4_addYear_54 rfl (lv_at hl 3 rfl) ?_
          refine lv_iconst (v := 1) C.1 C.2.1 dX4_addYear_55 (by decide) ?_
          obtain ⟨r9, M10, he8, hf⟩ := ea_ci_s hf
          refine ea_runi2 hw (cl_X4_72 C hw (ok_3_2 ho1) (As := [.int x3, .int (1 : Int32)]) (rest := [.int (r6 * (100 : Int32))]) (mX5_shadeOf (l := l) (E := E) (ids := ids) hX (ok_3_2 ho1) he8) (by decide) rfl hl.1 rfl (Nat.le_of_ble_eq_true rfl) dX4_addYear_56 ⟨Nat.le_refl _, Nat.le_refl _⟩) (fun H locs hw => ?_)
          refine lv_iadd C.1 C.2.1 dX4_addYear_59 ?_
          obtain ⟨y11, ey12, hf⟩ := ea_lt_s hf
          refine ea_topi ey12 ?_
          refine lv_istore (lv' := [(4, .int y11), (0, .ref (E.1 70)), (1, .ref (E.1 a1)), (2, .int x2), (3, .int x3)]) C.1 C.2.1 dX4_addYear_60 hl (by decide) rfl (fun ls hl => ?_)
          refine lv_aload_n C.1 C.2.1 dX4_addYear_62 rfl (lv_at hl 1 rfl) ?_
          refine gf_X4_11 C hw (hX 70 4 rfl) dX4_addYear_63 ?_
          refine W.eq (g2 := F0 m 66 ls [.ref (E.1 71)]) rfl ?_
          refine lv_aload_n C.1 C.2.1 dX4_addYear_66 rfl (lv_at hl 1 rfl) ?_
          refine gf_X4_17 C hw (hX 70 4 rfl) dX4_addYear_67 ?_
          refine lv_iload C.1 C.2.1 dX4_addYear_70 (lv_at hl 0 rfl) ?_
          refine lv_bipush (v := 100) C.1 C.2.1 dX4_addYear_72 (by decide) ?_
          refine lv_imul C.1 C.2.1 dX4_addYear_74 ?_
          refine lv_aload_n C.1 C.2.1 dX4_addYear_75 rfl (lv_at hl 2 rfl) ?_
          refine gf_X4_45 C hw ho1 dX4_addYear_76 ?_
          refine lv_iload_n C.1 C.2.1 dX4_addYear_79 rfl (lv_at hl 4 rfl) ?_
          refine lv_iconst (v := 2) C.1 C.2.1 dX4_addYear_80 (by decide) ?_
          obtain ⟨r14, M15, he13, hf⟩ := ea_ci_s hf
          refine ea_runi2 hw (cl_X4_72 C hw (ok_3_2 ho1) (As := [.int x3, .int (2 : Int32)]) (rest := [.int (y11 * (100 : Int32)), .int (M10.1 70 1), .ref (E.1 71)]) (mX5_shadeOf (l := l) (E := E) (ids := ids) hX (ok_3_2 ho1) he13) (by decide) rfl hl.1 rfl (Nat.le_of_ble_eq_true rfl) dX4_addYear_81 ⟨Nat.le_refl _, Nat.le_refl _⟩) (fun H locs hw => ?_)
          refine lv_iadd C.1 C.2.1 dX4_addYear_84 ?_
          obtain ⟨hc16, hf⟩ := ea_ck_s hf
          refine ea_iast C hw (show ea_ok ids 71 20 from ok_4_0 (hX 70 4 rfl)) hc16 dX4_addYear_85 (fun H locs hw => ?_)
          refine lv_aload_n C.1 C.2.1 dX4_addYear_86 rfl (lv_at hl 1 rfl) ?_
          refine lv_dup C.1 C.2.1 dX4_addYear_87 rfl ?_
          refine gf_X4_17 C hw (hX 70 4 rfl) dX4_addYear_88 ?_
          refine lv_iconst (v := 1) C.1 C.2.1 dX4_addYear_91 (by decide) ?_
          refine lv_iadd C.1 C.2.1 dX4_addYear_92 ?_
          refine pu_X4_17 C hw (hX 70 4 rfl) dX4_addYear_93 (fun H locs hw => ?_)
          exact wX4_addYear_96 C hX ho1 ih _ _ _ _ _ _ hf hw (lv_sub hl [1, 2, 3, 4] rfl)
set_option maxHeartbeats 4000000 in
set_option maxRecDepth 20000 in
theorem wX4_addYear_0 (C : ea_C p s m args meth cd cX4_addYear 5 none RX4) (hX : ea_X ids) (ho1 : ea_ok ids a1 3) : ∀ (x2 : Int32) (M : eM) (H : Heap) (locs : List Loc) (ls : Array Slot), fX4_addYear_0 a1 x2 M = some res → ea_w E ids M s H locs → lv_has ls 5 [(0, .ref (E.1 70)), (1, .ref (E.1 a1)), (2, .int x2)] → W p l e (ea_rm 2 43) s m args below meth cd H locs 0 0 (MQ below (ea_Qv E ids res) args s 0 0 (ea_Ad E ids)) (F0 m 0 ls []) := by
  intro x2 M H locs ls hf  hw hl
  replace hf := (fX4_addYear_0.eq_1 ..).symm.trans hf
  refine lv_iconst (v := 0) C.1 C.2.1 dX4_addYear_0 (by decide) ?_
  refine lv_istore_n (lv' := [(3, .int (0 : Int32)), (0, .ref (E.1 70)), (1, .ref (E.1 a1)), (2, .int x2)]) C.1 C.2.1 dX4_addYear_1 rfl hl (by decide) rfl (fun ls hl => ?_)
  exact wX4_addYear_2 C hX ho1 ea_N _ _ _ _ _ _ hf hw (lv_sub hl [1, 2, 3, 0] rfl)
set_option maxHeartbeats 4000000 in
set_option maxRecDepth 20000 in
theorem mX4_addYear {l : Launch} {E : eE} {ids : List Nat} (hX : ea_X ids) {a1 : Nat} {x2 : Int32} (ho1 : ea_ok ids a1 3) {M : eM} {res : eM} (hf : fX4_addYear a1 x2 M = some res) : ea_Mv l yX4_addYear cX4_addYear 5 2 43 E ids [.ref (E.1 70), .ref (E.1 a1), .int x2] M res := by
  refine ea_gov (by decide) (Nat.le_of_ble_eq_true rfl) wc_X4_addYear ?_
  intro p e s m below meth cd ls C hw hl
  exact wX4_addYear_0 C hX ho1 _ _ _ _ _ hf hw hl
end SX4_addYear

def fX4_longestRun_42 (k6 : Int32 → Int32 → Int32 → eM → Option (Int32 × eM)) (x1 : Int32) (x3 : Int32) (t0 : Int32) (M : eM) : Option (Int32 × eM) := k6 (ea_max x1 t0) t0 (x3 + (1 : Int32)) M
def fX4_longestRun_41 (k6 : Int32 → Int32 → Int32 → eM → Option (Int32 × eM)) (x1 : Int32) (x3 : Int32) (M : eM) : Option (Int32 × eM) := fX4_longestRun_42 k6 x1 x3 (1 : Int32) M
def fX4_longestRun_6 : Nat → Int32 → Int32 → Int32 → eM → Option (Int32 × eM)
  | 0, _, _, _, _ => none
  | n + 1, x1, x2, x3, M => if (M.1 70 1) ≤ x3 then (some (x1, M)) else (if x3 ≤ 0 then (fX4_longestRun_41 (fX4_longestRun_6 n) x1 x3 M) else (ea_ck (ea_ix x3 (ea_len 71)) (ea_ck (ea_ix (x3 - (1 : Int32)) (ea_len 71)) (if (M.1 71 x3.toNatClampNeg) = (M.1 71 (x3 - (1 : Int32)).toNatClampNeg) then (fX4_longestRun_42 (fX4_longestRun_6 n) x1 x3 (x2 + (1 : Int32)) M) else (fX4_longestRun_41 (fX4_longestRun_6 n) x1 x3 M)))))
def fX4_longestRun_0 (M : eM) : Option (Int32 × eM) := fX4_longestRun_6 ea_N (0 : Int32) (0 : Int32) (0 : Int32) M
def fX4_longestRun (M : eM) : Option (Int32 × eM) := fX4_longestRun_0 M
section SX4_longestRun
variable {p : Program} {l : Launch} {e : Env} {s : State} {m : MethodId} {args : Array Value} {below : List Frame} {meth : Method} {cd : Code} {E : eE} {ids : List Nat} {res : Int32 × eM}
set_option maxHeartbeats 4000000 in
set_option maxRecDepth 20000 in
theorem wX4_longestRun_42 (C : ea_C p s m args meth cd cX4_longestRun 4 (some .int) RX4) (hX : ea_X ids) {k6 : Int32 → Int32 → Int32 → eM → Option (Int32 × eM)} (hk6 : ∀ (x1 : Int32) (x2 : Int32) (x3 : Int32) (M : eM) (H : Heap) (locs : List Loc) (ls : Array Slot), k6 x1 x2 x3 M = some res → ea_w E ids M s H locs → lv_has ls 4 [(0, .ref (E.1 70)), (1, .int x1), (2, .int x2), (3, .int x3)] → W p l e (ea_rm 1 21) s m args below meth cd H locs 0 0 (MQ below (ea_Qi E ids res) args s 0 0 (ea_Ad E ids)) (F0 m 6 ls [])) : ∀ (x1 : Int32) (x3 : Int32) (t0 : Int32) (M : eM) (H : Heap) (locs : List Loc) (ls : Array Slot), fX4_longestRun_42 k6 x1 x3 t0 M = some res → ea_w E ids M s H locs → lv_has ls 4 [(0, .ref (E.1 70)), (1, .int x1), (3, .int x3)] → W p l e (ea_rm 1 21) s m args below meth cd H locs 0 0 (MQ below (ea_Qi E ids res) args s 0 0 (ea_Ad E ids)) (F0 m 42 ls [.int t0]) := by
  intro x1 x3 t0 M H locs ls hf  hw hl
  replace hf := (fX4_longestRun_42.eq_1 ..).symm.trans hf
  refine lv_istore_n (lv' := [(2, .int t0), (0, .ref (E.1 70)), (1, .int x1), (3, .int x3)]) C.1 C.2.1 dX4_longestRun_42 rfl hl (by decide) rfl (fun ls hl => ?_)
  refine lv_iload_n C.1 C.2.1 dX4_longestRun_43 rfl (lv_at hl 2 rfl) ?_
  refine lv_iload_n C.1 C.2.1 dX4_longestRun_44 rfl (lv_at hl 0 rfl) ?_
  refine mm_X4_76 C hl.1 (by decide) (Nat.le_of_ble_eq_true rfl) ⟨Nat.le_refl _, Nat.le_refl _⟩ dX4_longestRun_45 ?_
  refine lv_istore_n (lv' := [(1, .int (ea_max x1 t0)), (2, .int t0), (0, .ref (E.1 70)), (3, .int x3)]) C.1 C.2.1 dX4_longestRun_48 rfl hl (by decide) rfl (fun ls hl => ?_)
  refine lv_iinc (v := x3 + (1 : Int32)) (lv' := [(3, .int (x3 + (1 : Int32))), (1, .int (ea_max x1 t0)), (2, .int t0), (0, .ref (E.1 70))]) C.1 C.2.1 dX4_longestRun_49 hl (k := 3) rfl rfl (by decide) rfl (fun ls hl => ?_)
  refine lv_goto (tgt := 6) C.1 C.2.1 dX4_longestRun_52 (by decide) ?_
  exact hk6 _ _ _ _ _ _ _ hf hw (lv_sub hl [3, 1, 2, 0] rfl)
set_option maxHeartbeats 4000000 in
set_option maxRecDepth 20000 in
theorem wX4_longestRun_41 (C : ea_C p s m args meth cd cX4_longestRun 4 (some .int) RX4) (hX : ea_X ids) {k6 : Int32 → Int32 → Int32 → eM → Option (Int32 × eM)} (hk6 : ∀ (x1 : Int32) (x2 : Int32) (x3 : Int32) (M : eM) (H : Heap) (locs : List Loc) (ls : Array Slot), k6 x1 x2 x3 M = some res → ea_w E ids M s H locs → lv_has ls 4 [(0, .ref (E.1 70)), (1, .int x1), (2, .int x2), (3, .int x3)] → W p l e (ea_rm 1 21) s m args below meth cd H locs 0 0 (MQ below (ea_Qi E ids res) args s 0 0 (ea_Ad E ids)) (F0 m 6 ls [])) : ∀ (x1 : Int32) (x3 : Int32) (M : eM) (H : Heap) (locs : List Loc) (ls : Array Slot), fX4_longestRun_41 k6 x1 x3 M = some res → ea_w E ids M s H locs → lv_has ls 4 [(0, .ref (E.1 70)), (1, .int x1), (3, .int x3)] → W p l e (ea_rm 1 21) s m args below meth cd H locs 0 0 (MQ below (ea_Qi E ids res) args s 0 0 (ea_Ad E ids)) (F0 m 41 ls []) := by
  intro x1 x3 M H locs ls hf  hw hl
  replace hf := (fX4_longestRun_41.eq_1 ..).symm.trans hf
  refine lv_iconst (v := 1) C.1 C.2.1 dX4_longestRun_41 (by decide) ?_
  exact wX4_longestRun_42 C hX hk6 _ _ _ _ _ _ _ hf hw (lv_sub hl [0, 1, 2] rfl)
set_option maxHeartbeats 4000000 in
set_option maxRecDepth 20000 in
theorem wX4_longestRun_6 (C : ea_C p s m args meth cd cX4_longestRun 4 (some .int) RX4) (hX : ea_X ids) : ∀ (n : Nat) (x1 : Int32) (x2 : Int32) (x3 : Int32) (M : eM) (H : Heap) (locs : List Loc) (ls : Array Slot), fX4_longestRun_6 n x1 x2 x3 M = some res → ea_w E ids M s H locs → lv_has ls 4 [(0, .ref (E.1 70)), (1, .int x1), (2, .int x2), (3, .int x3)] → W p l e (ea_rm 1 21) s m args below meth cd H locs 0 0 (MQ below (ea_Qi E ids res) args s 0 0 (ea_Ad E ids)) (F0 m 6 ls []) := by
  intro n
  induction n with
  | zero => intro x1 x2 x3 M H locs ls hf; cases hf
  | succ n ih =>
    intro x1 x2 x3 M H locs ls hf  hw hl
    replace hf := (fX4_longestRun_6.eq_2 ..).symm.trans hf
    refine lv_iload_n C.1 C.2.1 dX4_longestRun_6 rfl (lv_at hl 3 rfl) ?_
    refine lv_aload_n C.1 C.2.1 dX4_longestRun_7 rfl (lv_at hl 0 rfl) ?_
    refine gf_X4_17 C hw (hX 70 4 rfl) dX4_longestRun_8 ?_
    refine lv_icmp_ge (tgt := 55) C.1 C.2.1 dX4_longestRun_11 (by decide) (fun hc1 => ?_) (fun hc1 => ?_)
    · replace hf := ea_if_t hc1 hf
      refine lv_iload_n C.1 C.2.1 dX4_longestRun_55 rfl (lv_at hl 1 rfl) ?_
      exact ea_iret C hw hf dX4_longestRun_56
    · replace hf := ea_if_f hc1 hf
      refine lv_iload_n C.1 C.2.1 dX4_longestRun_14 rfl (lv_at hl 3 rfl) ?_
      refine lv_if_le (tgt := 41) C.1 C.2.1 dX4_longestRun_15 (by decide) (fun hc2 => ?_) (fun hc2 => ?_)
      · replace hf := ea_if_t hc2 hf
        exact wX4_longestRun_41 C hX ih _ _ _ _ _ _ hf hw (lv_sub hl [0, 1, 3] rfl)
      · replace hf := ea_if_f hc2 hf
        refine lv_aload_n C.1 C.2.1 dX4_longestRun_18 rfl (lv_at hl 0 rfl) ?_
        refine gf_X4_11 C hw (hX 70 4 rfl) dX4_longestRun_19 ?_
        refine W.eq (g2 := F0 m 22 ls [.ref (E.1 71)]) rfl ?_
        refine lv_iload_n C.1 C.2.1 dX4_longestRun_22 rfl (lv_at hl 3 rfl) ?_
        obtain ⟨hc3, hf⟩ := ea_ck_s hf
        refine ea_iald C hw (show ea_ok ids 71 20 from ok_4_0 (hX 70 4 rfl)) hc3 dX4_longestRun_23 ?_
        refine lv_aload_n C.1 C.2.1 dX4_longestRun_24 rfl (lv_at hl 0 rfl) ?_
        refine gf_X4_11 C hw (hX 70 4 rfl) dX4_longestRun_25 ?_
        refine W.eq (g2 := F0 m 28 ls [.ref (E.1 71), .int (M.1 71 x3.toNatClampNeg)]) rfl ?_
        refine lv_iload_n C.1 C.2.1 dX4_longestRun_28 rfl (lv_at hl 3 rfl) ?_
        refine lv_iconst (v := 1) C.1 C.2.1 dX4_longestRun_29 (by decide) ?_
        refine lv_isub C.1 C.2.1 dX4_longestRun_30 ?_
        obtain ⟨hc4, hf⟩ := ea_ck_s hf
        refine ea_iald C hw (show ea_ok ids 71 20 from ok_4_0 (hX 70 4 rfl)) hc4 dX4_longestRun_31 ?_
        refine lv_icmp_ne (tgt := 41) C.1 C.2.1 dX4_longestRun_32 (by decide) (fun hc5 => ?_) (fun hc5 => ?_)
        · replace hf := ea_if_f hc5 hf
          exact wX4_longestRun_41 C hX ih _ _ _ _ _ _ hf hw (lv_sub hl [0, 1, 3] rfl)
        · replace hf := ea_if_t hc5 hf
          refine lv_iload_n C.1 C.2.1 dX4_longestRun_35 rfl (lv_at hl 2 rfl) ?_
          refine lv_iconst (v := 1) C.1 C.2.1 dX4_longestRun_36 (by decide) ?_
          refine lv_iadd C.1 C.2.1 dX4_longestRun_37 ?_
          refine lv_goto (tgt := 42) C.1 C.2.1 dX4_longestRun_38 (by decide) ?_
          exact wX4_longestRun_42 C hX ih _ _ _ _ _ _ _ hf hw (lv_sub hl [0, 1, 3] rfl)
set_option maxHeartbeats 4000000 in
set_option maxRecDepth 20000 in
theorem wX4_longestRun_0 (C : ea_C p s m args meth cd cX4_longestRun 4 (some .int) RX4) (hX : ea_X ids) : ∀  (M : eM) (H : Heap) (locs : List Loc) (ls : Array Slot), fX4_longestRun_0 M = some res → ea_w E ids M s H locs → lv_has ls 4 [(0, .ref (E.1 70))] → W p l e (ea_rm 1 21) s m args below meth cd H locs 0 0 (MQ below (ea_Qi E ids res) args s 0 0 (ea_Ad E ids)) (F0 m 0 ls []) := by
  intro M H locs ls hf  hw hl
  replace hf := (fX4_longestRun_0.eq_1 ..).symm.trans hf
  refine lv_iconst (v := 0) C.1 C.2.1 dX4_longestRun_0 (by decide) ?_
  refine lv_istore_n (lv' := [(1, .int (0 : Int32)), (0, .ref (E.1 70))]) C.1 C.2.1 dX4_longestRun_1 rfl hl (by decide) rfl (fun ls hl => ?_)
  refine lv_iconst (v := 0) C.1 C.2.1 dX4_longestRun_2 (by decide) ?_
  refine lv_istore_n (lv' := [(2, .int (0 : Int32)), (1, .int (0 : Int32)), (0, .ref (E.1 70))]) C.1 C.2.1 dX4_longestRun_3 rfl hl (by decide) rfl (fun ls hl => ?_)
  refine lv_iconst (v := 0) C.1 C.2.1 dX4_longestRun_4 (by decide) ?_
  refine lv_istore_n (lv' := [(3, .int (0 : Int32)), (2, .int (0 : Int32)), (1, .int (0 : Int32)), (0, .ref (E.1 70))]) C.1 C.2.1 dX4_longestRun_5 rfl hl (by decide) rfl (fun ls hl => ?_)
  exact wX4_longestRun_6 C hX ea_N _ _ _ _ _ _ _ hf hw (lv_sub hl [3, 2, 1, 0] rfl)
set_option maxHeartbeats 4000000 in
set_option maxRecDepth 20000 in
theorem mX4_longestRun {l : Launch} {E : eE} {ids : List Nat} (hX : ea_X ids) {M : eM} {res : Int32 × eM} (hf : fX4_longestRun M = some res) : ea_Mi l yX4_longestRun cX4_longestRun 4 (some .int) 1 21 E ids [.ref (E.1 70)] M res := by
  refine ea_goi (by decide) (Nat.le_of_ble_eq_true rfl) wc_X4_longestRun ?_
  intro p e s m below meth cd ls C hw hl
  exact wX4_longestRun_0 C hX  _ _ _ _ hf hw hl
end SX4_longestRun

def fX4_sink_66 (k13 : Int32 → Int32 → Int32 → Int32 → eM → Option (eM)) (k78 : Int32 → Int32 → eM → Option (eM)) (x2 : Int32) (x3 : Int32) (x4 : Int32) (x5 : Int32) (x6 : Int32) (M : eM) : Option (eM) := ea_ck (ea_ix x6 (ea_len 71)) (if x4 < (M.1 71 x6.toNatClampNeg) then (ea_ck (ea_ix x6 (ea_len 71)) (ea_ck (ea_ix x3 (ea_len 71)) (k13 x2 x6 x4 (x5 + (1 : Int32)) (ea_pI M 71 (x3.toNatClampNeg) (M.1 71 x6.toNatClampNeg))))) else (k78 x3 x4 M))
def fX4_sink_13 (k78 : Int32 → Int32 → eM → Option (eM)) (k103 : Int32 → Int32 → eM → Option (eM)) : Nat → Int32 → Int32 → Int32 → Int32 → eM → Option (eM)
  | 0, _, _, _, _, _ => none
  | n + 1, x2, x3, x4, x5, M => if (24 : Int32) ≤ x5 then (k103 x3 x4 M) else (if x2 ≤ (((2 : Int32) * x3) + (1 : Int32)) then (k103 x3 x4 M) else (ea_lt (((2 : Int32) * x3) + (1 : Int32)) (fun y3 => if x2 ≤ (y3 + (1 : Int32)) then (fX4_sink_66 (fX4_sink_13 k78 k103 n) k78 x2 x3 x4 x5 y3 M) else (ea_ck (ea_ix (y3 + (1 : Int32)) (ea_len 71)) (ea_ck (ea_ix y3 (ea_len 71)) (if (M.1 71 (y3 + (1 : Int32)).toNatClampNeg) ≤ (M.1 71 y3.toNatClampNeg) then (fX4_sink_66 (fX4_sink_13 k78 k103 n) k78 x2 x3 x4 x5 y3 M) else (fX4_sink_66 (fX4_sink_13 k78 k103 n) k78 x2 x3 x4 x5 (y3 + (1 : Int32)) M)))))))
def fX4_sink_103 (x3 : Int32) (x4 : Int32) (M : eM) : Option (eM) := ea_ck (ea_ix x3 (ea_len 71)) (some (ea_pI M 71 (x3.toNatClampNeg) x4))
def fX4_sink_78 (x3 : Int32) (x4 : Int32) (M : eM) : Option (eM) := fX4_sink_103 x3 x4 M
def fX4_sink_0 (x1 : Int32) (x2 : Int32) (M : eM) : Option (eM) := ea_ck (ea_ix x1 (ea_len 71)) (fX4_sink_13 (fX4_sink_78) (fX4_sink_103) ea_N x2 x1 (M.1 71 x1.toNatClampNeg) (0 : Int32) M)
def fX4_sink (x1 : Int32) (x2 : Int32) (M : eM) : Option (eM) := fX4_sink_0 x1 x2 M
section SX4_sink
variable {p : Program} {l : Launch} {e : Env} {s : State} {m : MethodId} {args : Array Value} {below : List Frame} {meth : Method} {cd : Code} {E : eE} {ids : List Nat} {res : eM}
set_option maxHeartbeats 4000000 in
set_option maxRecDepth 20000 in
theorem wX4_sink_66 (C : ea_C p s m args meth cd cX4_sink 7 none RX4) (hX : ea_X ids) {k13 : Int32 → Int32 → Int32 → Int32 → eM → Option (eM)} (hk13 : ∀ (x2 : Int32) (x3 : Int32) (x4 : Int32) (x5 : Int32) (M : eM) (H : Heap) (locs : List Loc) (ls : Array Slot), k13 x2 x3 x4 x5 M = some res → ea_w E ids M s H locs → lv_has ls 7 [(0, .ref (E.1 70)), (2, .int x2), (3, .int x3), (4, .int x4), (5, .int x5)] → W p l e (ea_rm 0 0) s m args below meth cd H locs 0 0 (MQ below (ea_Qv E ids res) args s 0 0 (ea_Ad E ids)) (F0 m 13 ls [])) {k78 : Int32 → Int32 → eM → Option (eM)} (hk78 : ∀ (x3 : Int32) (x4 : Int32) (M : eM) (H : Heap) (locs : List Loc) (ls : Array Slot), k78 x3 x4 M = some res → ea_w E ids M s H locs → lv_has ls 7 [(0, .ref (E.1 70)), (3, .int x3), (4, .int x4)] → W p l e (ea_rm 0 0) s m args below meth cd H locs 0 0 (MQ below (ea_Qv E ids res) args s 0 0 (ea_Ad E ids)) (F0 m 78 ls [])) : ∀ (x2 : Int32) (x3 : Int32) (x4 : Int32) (x5 : Int32) (x6 : Int32) (M : eM) (H : Heap) (locs : List Loc) (ls : Array Slot), fX4_sink_66 k13 k78 x2 x3 x4 x5 x6 M = some res → ea_w E ids M s H locs → lv_has ls 7 [(0, .ref (E.1 70)), (2, .int x2), (3, .int x3), (4, .int x4), (5, .int x5), (6, .int x6)] → W p l e (ea_rm 0 0) s m args below meth cd H locs 0 0 (MQ below (ea_Qv E ids res) args s 0 0 (ea_Ad E ids)) (F0 m 66 ls []) := by
  intro x2 x3 x4 x5 x6 M H locs ls hf  hw hl
  replace hf := (fX4_sink_66.eq_1 ..).symm.trans hf
  refine lv_aload_n C.1 C.2.1 dX4_sink_66 rfl (lv_at hl 0 rfl) ?_
  refine gf_X4_11 C hw (hX 70 4 rfl) dX4_sink_67 ?_
  refine W.eq (g2 := F0 m 70 ls [.ref (E.1 71)]) rfl ?_
  refine lv_iload C.1 C.2.1 dX4_sink_70 (lv_at hl 5 rfl) ?_
  obtain ⟨hc1, hf⟩ := ea_ck_s hf
  refine ea_iald C hw (show ea_ok ids 71 20 from ok_4_0 (hX 70 4 rfl)) hc1 dX4_sink_72 ?_
  refine lv_iload C.1 C.2.1 dX4_sink_73 (lv_at hl 3 rfl) ?_
  refine lv_icmp_gt (tgt := 81) C.1 C.2.1 dX4_sink_75 (by decide) (fun hc2 => ?_) (fun hc2 => ?_)
  · replace hf := ea_if_t hc2 hf
    refine lv_aload_n C.1 C.2.1 dX4_sink_81 rfl (lv_at hl 0 rfl) ?_
    refine gf_X4_11 C hw (hX 70 4 rfl) dX4_sink_82 ?_
    refine W.eq (g2 := F0 m 85 ls [.ref (E.1 71)]) rfl ?_
    refine lv_iload_n C.1 C.2.1 dX4_sink_85 rfl (lv_at hl 2 rfl) ?_
    refine lv_aload_n C.1 C.2.1 dX4_sink_86 rfl (lv_at hl 0 rfl) ?_
    refine gf_X4_11 C hw (hX 70 4 rfl) dX4_sink_87 ?_
    refine W.eq (g2 := F0 m 90 ls [.ref (E.1 71), .int x3, .ref (E.1 71)]) rfl ?_
    refine lv_iload C.1 C.2.1 dX4_sink_90 (lv_at hl 5 rfl) ?_
    obtain ⟨hc3, hf⟩ := ea_ck_s hf
    refine ea_iald C hw (show ea_ok ids 71 20 from ok_4_0 (hX 70 4 rfl)) hc3 dX4_sink_92 ?_
    obtain ⟨hc4, hf⟩ := ea_ck_s hf
    refine ea_iast C hw (show ea_ok ids 71 20 from ok_4_0 (hX 70 4 rfl)) hc4 dX4_sink_93 (fun H locs hw => ?_)
    refine lv_iload C.1 C.2.1 dX4_sink_94 (lv_at hl 5 rfl) ?_
    refine lv_istore_n (lv' := [(3, .int x6), (0, .ref (E.1 70)), (2, .int x2), (4, .int x4), (5, .int x5), (6, .int x6)]) C.1 C.2.1 dX4_sink_96 rfl hl (by decide) rfl (fun ls hl => ?_)
    refine lv_iinc (v := x5 + (1 : Int32)) (lv' := [(5, .int (x5 + (1 : Int32))), (3, .int x6), (0, .ref (E.1 70)), (2, .int x2), (4, .int x4), (6, .int x6)]) C.1 C.2.1 dX4_sink_97 hl (k := 4) rfl rfl (by decide) rfl (fun ls hl => ?_)
    refine lv_goto (tgt := 13) C.1 C.2.1 dX4_sink_100 (by decide) ?_
    exact hk13 _ _ _ _ _ _ _ _ hf hw (lv_sub hl [2, 3, 1, 4, 0] rfl)
  · replace hf := ea_if_f hc2 hf
    exact hk78 _ _ _ _ _ _ hf hw (lv_sub hl [0, 2, 3] rfl)
set_option maxHeartbeats 4000000 in
set_option maxRecDepth 20000 in
theorem wX4_sink_13 (C : ea_C p s m args meth cd cX4_sink 7 none RX4) (hX : ea_X ids) {k78 : Int32 → Int32 → eM → Option (eM)} (hk78 : ∀ (x3 : Int32) (x4 : Int32) (M : eM) (H : Heap) (locs : List Loc) (ls : Array Slot), k78 x3 x4 M = some res → ea_w E ids M s H locs → lv_has ls 7 [(0, .ref (E.1 70)), (3, .int x3), (4, .int x4)] → W p l e (ea_rm 0 0) s m args below meth cd H locs 0 0 (MQ below (ea_Qv E ids res) args s 0 0 (ea_Ad E ids)) (F0 m 78 ls [])) {k103 : Int32 → Int32 → eM → Option (eM)} (hk103 : ∀ (x3 : Int32) (x4 : Int32) (M : eM) (H : Heap) (locs : List Loc) (ls : Array Slot), k103 x3 x4 M = some res → ea_w E ids M s H locs → lv_has ls 7 [(0, .ref (E.1 70)), (3, .int x3), (4, .int x4)] → W p l e (ea_rm 0 0) s m args below meth cd H locs 0 0 (MQ below (ea_Qv E ids res) args s 0 0 (ea_Ad E ids)) (F0 m 103 ls [])) : ∀ (n : Nat) (x2 : Int32) (x3 : Int32) (x4 : Int32) (x5 : Int32) (M : eM) (H : Heap) (locs : List Loc) (ls : Array Slot), fX4_sink_13 k78 k103 n x2 x3 x4 x5 M = some res → ea_w E ids M s H locs → lv_has ls 7 [(0, .ref (E.1 70)), (2, .int x2), (3, .int x3), (4, .int x4), (5, .int x5)] → W p l e (ea_rm 0 0) s m args below meth cd H locs 0 0 (MQ below (ea_Qv E ids res) args s 0 0 (ea_Ad E ids)) (F0 m 13 ls []) := by
  intro n
  induction n with
  | zero => intro x2 x3 x4 x5 M H locs ls hf; cases hf
  | succ n ih =>
    intro x2 x3 x4 x5 M H locs ls hf  hw hl
    replace hf := (fX4_sink_13.eq_2 ..).symm.trans hf
    refine lv_iload C.1 C.2.1 dX4_sink_13 (lv_at hl 4 rfl) ?_
    refine lv_bipush (v := 24) C.1 C.2.1 dX4_sink_15 (by decide) ?_
    refine lv_icmp_ge (tgt := 103) C.1 C.2.1 dX4_sink_17 (by decide) (fun hc1 => ?_) (fun hc1 => ?_)
    · replace hf := ea_if_t hc1 hf
      exact hk103 _ _ _ _ _ _ hf hw (lv_sub hl [0, 2, 3] rfl)
    · replace hf := ea_if_f hc1 hf
      refine lv_iconst (v := 2) C.1 C.2.1 dX4_sink_20 (by decide) ?_
      refine lv_iload_n C.1 C.2.1 dX4_sink_21 rfl (lv_at hl 2 rfl) ?_
      refine lv_imul C.1 C.2.1 dX4_sink_22 ?_
      refine lv_iconst (v := 1) C.1 C.2.1 dX4_sink_23 (by decide) ?_
      refine lv_iadd C.1 C.2.1 dX4_sink_24 ?_
      refine lv_iload_n C.1 C.2.1 dX4_sink_25 rfl (lv_at hl 1 rfl) ?_
      refine lv_icmp_ge (tgt := 103) C.1 C.2.1 dX4_sink_26 (by decide) (fun hc2 => ?_) (fun hc2 => ?_)
      · replace hf := ea_if_t hc2 hf
        exact hk103 _ _ _ _ _ _ hf hw (lv_sub hl [0, 2, 3] rfl)
      · replace hf := ea_if_f hc2 hf
        refine lv_iconst (v := 2) C.1 C.2.1 dX4_sink_29 (by decide) ?_
        refine lv_iload_n C.1 C.2.1 dX4_sink_30 rfl (lv_at hl 2 rfl) ?_
        refine lv_imul C.1 C.2.1 dX4_sink_31 ?_
        refine lv_iconst (v := 1) C.1 C.2.1 dX4_sink_32 (by decide) ?_
        refine lv_iadd C.1 C.2.1 dX4_sink_33 ?_
        obtain ⟨y3, ey4, hf⟩ := ea_lt_s hf
        refine ea_topi ey4 ?_
        refine lv_istore (lv' := [(6, .int y3), (0, .ref (E.1 70)), (2, .int x2), (3, .int x3), (4, .int x4), (5, .int x5)]) C.1 C.2.1 dX4_sink_34 hl (by decide) rfl (fun ls hl => ?_)
        refine lv_iload C.1 C.2.1 dX4_sink_36 (lv_at hl 0 rfl) ?_
        refine lv_iconst (v := 1) C.1 C.2.1 dX4_sink_38 (by decide) ?_
        refine lv_iadd C.1 C.2.1 dX4_sink_39 ?_
        refine lv_iload_n C.1 C.2.1 dX4_sink_40 rfl (lv_at hl 2 rfl) ?_
        refine lv_icmp_ge (tgt := 66) C.1 C.2.1 dX4_sink_41 (by decide) (fun hc5 => ?_) (fun hc5 => ?_)
        · replace hf := ea_if_t hc5 hf
          exact wX4_sink_66 C hX ih hk78 _ _ _ _ _ _ _ _ _ hf hw (lv_sub hl [1, 2, 3, 4, 5, 0] rfl)
        · replace hf := ea_if_f hc5 hf
          refine lv_aload_n C.1 C.2.1 dX4_sink_44 rfl (lv_at hl 1 rfl) ?_
          refine gf_X4_11 C hw (hX 70 4 rfl) dX4_sink_45 ?_
          refine W.eq (g2 := F0 m 48 ls [.ref (E.1 71)]) rfl ?_
          refine lv_iload C.1 C.2.1 dX4_sink_48 (lv_at hl 0 rfl) ?_
          refine lv_iconst (v := 1) C.1 C.2.1 dX4_sink_50 (by decide) ?_
          refine lv_iadd C.1 C.2.1 dX4_sink_51 ?_
          obtain ⟨hc6, hf⟩ := ea_ck_s hf
          refine ea_iald C hw (show ea_ok ids 71 20 from ok_4_0 (hX 70 4 rfl)) hc6 dX4_sink_52 ?_
          refine lv_aload_n C.1 C.2.1 dX4_sink_53 rfl (lv_at hl 1 rfl) ?_
          refine gf_X4_11 C hw (hX 70 4 rfl) dX4_sink_54 ?_
          refine W.eq (g2 := F0 m 57 ls [.ref (E.1 71), .int (M.1 71 (y3 + (1 : Int32)).toNatClampNeg)]) rfl ?_
          refine lv_iload C.1 C.2.1 dX4_sink_57 (lv_at hl 0 rfl) ?_
          obtain ⟨hc7, hf⟩ := ea_ck_s hf
          refine ea_iald C hw (show ea_ok ids 71 20 from ok_4_0 (hX 70 4 rfl)) hc7 dX4_sink_59 ?_
          refine lv_icmp_le (tgt := 66) C.1 C.2.1 dX4_sink_60 (by decide) (fun hc8 => ?_) (fun hc8 => ?_)
          · replace hf := ea_if_t hc8 hf
            exact wX4_sink_66 C hX ih hk78 _ _ _ _ _ _ _ _ _ hf hw (lv_sub hl [1, 2, 3, 4, 5, 0] rfl)
          · replace hf := ea_if_f hc8 hf
            refine lv_iinc (v := y3 + (1 : Int32)) (lv' := [(6, .int (y3 + (1 : Int32))), (0, .ref (E.1 70)), (2, .int x2), (3, .int x3), (4, .int x4), (5, .int x5)]) C.1 C.2.1 dX4_sink_63 hl (k := 0) rfl rfl (by decide) rfl (fun ls hl => ?_)
            exact wX4_sink_66 C hX ih hk78 _ _ _ _ _ _ _ _ _ hf hw (lv_sub hl [1, 2, 3, 4, 5, 0] rfl)
set_option maxHeartbeats 4000000 in
set_option maxRecDepth 20000 in
theorem wX4_sink_103 (C : ea_C p s m args meth cd cX4_sink 7 none RX4) (hX : ea_X ids) : ∀ (x3 : Int32) (x4 : Int32) (M : eM) (H : Heap) (locs : List Loc) (ls : Array Slot), fX4_sink_103 x3 x4 M = some res → ea_w E ids M s H locs → lv_has ls 7 [(0, .ref (E.1 70)), (3, .int x3), (4, .int x4)] → W p l e (ea_rm 0 0) s m args below meth cd H locs 0 0 (MQ below (ea_Qv E ids res) args s 0 0 (ea_Ad E ids)) (F0 m 103 ls []) := by
  intro x3 x4 M H locs ls hf  hw hl
  replace hf := (fX4_sink_103.eq_1 ..).symm.trans hf
  refine lv_aload_n C.1 C.2.1 dX4_sink_103 rfl (lv_at hl 0 rfl) ?_
  refine gf_X4_11 C hw (hX 70 4 rfl) dX4_sink_104 ?_
  refine W.eq (g2 := F0 m 107 ls [.ref (E.1 71)]) rfl ?_
  refine lv_iload_n C.1 C.2.1 dX4_sink_107 rfl (lv_at hl 1 rfl) ?_
  refine lv_iload C.1 C.2.1 dX4_sink_108 (lv_at hl 2 rfl) ?_
  obtain ⟨hc1, hf⟩ := ea_ck_s hf
  refine ea_iast C hw (show ea_ok ids 71 20 from ok_4_0 (hX 70 4 rfl)) hc1 dX4_sink_110 (fun H locs hw => ?_)
  exact ea_vret C hw hf dX4_sink_111
set_option maxHeartbeats 4000000 in
set_option maxRecDepth 20000 in
theorem wX4_sink_78 (C : ea_C p s m args meth cd cX4_sink 7 none RX4) (hX : ea_X ids) : ∀ (x3 : Int32) (x4 : Int32) (M : eM) (H : Heap) (locs : List Loc) (ls : Array Slot), fX4_sink_78 x3 x4 M = some res → ea_w E ids M s H locs → lv_has ls 7 [(0, .ref (E.1 70)), (3, .int x3), (4, .int x4)] → W p l e (ea_rm 0 0) s m args below meth cd H locs 0 0 (MQ below (ea_Qv E ids res) args s 0 0 (ea_Ad E ids)) (F0 m 78 ls []) := by
  intro x3 x4 M H locs ls hf  hw hl
  replace hf := (fX4_sink_78.eq_1 ..).symm.trans hf
  refine lv_goto (tgt := 103) C.1 C.2.1 dX4_sink_78 (by decide) ?_
  exact wX4_sink_103 C hX _ _ _ _ _ _ hf hw (lv_sub hl [0, 1, 2] rfl)
set_option maxHeartbeats 4000000 in
set_option maxRecDepth 20000 in
theorem wX4_sink_0 (C : ea_C p s m args meth cd cX4_sink 7 none RX4) (hX : ea_X ids) : ∀ (x1 : Int32) (x2 : Int32) (M : eM) (H : Heap) (locs : List Loc) (ls : Array Slot), fX4_sink_0 x1 x2 M = some res → ea_w E ids M s H locs → lv_has ls 7 [(0, .ref (E.1 70)), (1, .int x1), (2, .int x2)] → W p l e (ea_rm 0 0) s m args below meth cd H locs 0 0 (MQ below (ea_Qv E ids res) args s 0 0 (ea_Ad E ids)) (F0 m 0 ls []) := by
  intro x1 x2 M H locs ls hf  hw hl
  replace hf := (fX4_sink_0.eq_1 ..).symm.trans hf
  refine lv_iload_n C.1 C.2.1 dX4_sink_0 rfl (lv_at hl 1 rfl) ?_
  refine lv_istore_n (lv' := [(3, .int x1), (0, .ref (E.1 70)), (1, .int x1), (2, .int x2)]) C.1 C.2.1 dX4_sink_1 rfl hl (by decide) rfl (fun ls hl => ?_)
  refine lv_aload_n C.1 C.2.1 dX4_sink_2 rfl (lv_at hl 1 rfl) ?_
  refine gf_X4_11 C hw (hX 70 4 rfl) dX4_sink_3 ?_
  refine W.eq (g2 := F0 m 6 ls [.ref (E.1 71)]) rfl ?_
  refine lv_iload_n C.1 C.2.1 dX4_sink_6 rfl (lv_at hl 2 rfl) ?_
  obtain ⟨hc1, hf⟩ := ea_ck_s hf
  refine ea_iald C hw (show ea_ok ids 71 20 from ok_4_0 (hX 70 4 rfl)) hc1 dX4_sink_7 ?_
  refine lv_istore (lv' := [(4, .int (M.1 71 x1.toNatClampNeg)), (3, .int x1), (0, .ref (E.1 70)), (1, .int x1), (2, .int x2)]) C.1 C.2.1 dX4_sink_8 hl (by decide) rfl (fun ls hl => ?_)
  refine lv_iconst (v := 0) C.1 C.2.1 dX4_sink_10 (by decide) ?_
  refine lv_istore (lv' := [(5, .int (0 : Int32)), (4, .int (M.1 71 x1.toNatClampNeg)), (3, .int x1), (0, .ref (E.1 70)), (1, .int x1), (2, .int x2)]) C.1 C.2.1 dX4_sink_11 hl (by decide) rfl (fun ls hl => ?_)
  exact wX4_sink_13 C hX (wX4_sink_78 C hX) (wX4_sink_103 C hX) ea_N _ _ _ _ _ _ _ _ hf hw (lv_sub hl [3, 5, 2, 1, 0] rfl)
set_option maxHeartbeats 4000000 in
set_option maxRecDepth 20000 in
theorem mX4_sink {l : Launch} {E : eE} {ids : List Nat} (hX : ea_X ids) {x1 : Int32} {x2 : Int32} {M : eM} {res : eM} (hf : fX4_sink x1 x2 M = some res) : ea_Mv l yX4_sink cX4_sink 7 0 0 E ids [.ref (E.1 70), .int x1, .int x2] M res := by
  refine ea_gov (by decide) (Nat.le_of_ble_eq_true rfl) wc_X4_sink ?_
  intro p e s m below meth cd ls C hw hl
  exact wX4_sink_0 C hX _ _ _ _ _ _ hf hw hl
end SX4_sink

def fX4_sort_9 (k28 : eM → Option (eM)) : Nat → Int32 → eM → Option (eM)
  | 0, _, _ => none
  | n + 1, x1, M => if x1 < 0 then (k28 M) else (ea_cv (fX4_sink x1 (M.1 70 1) M) (fun M3 => fX4_sort_9 k28 n (x1 + (-1 : Int32)) M3))
def fX4_sort_35 : Nat → Int32 → eM → Option (eM)
  | 0, _, _ => none
  | n + 1, x1, M => if x1 ≤ 0 then (some M) else (ea_lt (M.1 71 (0 : Int32).toNatClampNeg) (fun y2 => ea_ck (ea_ix x1 (ea_len 71)) (ea_ck (ea_ix x1 (ea_len 71)) (ea_cv (fX4_sink (0 : Int32) x1 (ea_pI (ea_pI M 71 ((0 : Int32).toNatClampNeg) (M.1 71 x1.toNatClampNeg)) 71 (x1.toNatClampNeg) y2)) (fun M7 => fX4_sort_35 n (x1 + (-1 : Int32)) M7)))))
def fX4_sort_28 (M : eM) : Option (eM) := fX4_sort_35 ea_N ((M.1 70 1) - (1 : Int32)) M
def fX4_sort_0 (M : eM) : Option (eM) := ea_lt (((M.1 70 1) / (2 : Int32)) - (1 : Int32)) (fun y1 => fX4_sort_9 (fX4_sort_28) ea_N y1 M)
def fX4_sort (M : eM) : Option (eM) := fX4_sort_0 M
section SX4_sort
variable {p : Program} {l : Launch} {e : Env} {s : State} {m : MethodId} {args : Array Value} {below : List Frame} {meth : Method} {cd : Code} {E : eE} {ids : List Nat} {res : eM}
set_option maxHeartbeats 4000000 in
set_option maxRecDepth 20000 in
theorem wX4_sort_9 (C : ea_C p s m args meth cd cX4_sort 3 none RX4) (hX : ea_X ids) {k28 : eM → Option (eM)} (hk28 : ∀  (M : eM) (H : Heap) (locs : List Loc) (ls : Array Slot), k28 M = some res → ea_w E ids M s H locs → lv_has ls 3 [(0, .ref (E.1 70))] → W p l e (ea_rm 1 26) s m args below meth cd H locs 0 0 (MQ below (ea_Qv E ids res) args s 0 0 (ea_Ad E ids)) (F0 m 28 ls [])) : ∀ (n : Nat) (x1 : Int32) (M : eM) (H : Heap) (locs : List Loc) (ls : Array Slot), fX4_sort_9 k28 n x1 M = some res → ea_w E ids M s H locs → lv_has ls 3 [(0, .ref (E.1 70)), (1, .int x1)] → W p l e (ea_rm 1 26) s m args below meth cd H locs 0 0 (MQ below (ea_Qv E ids res) args s 0 0 (ea_Ad E ids)) (F0 m 9 ls []) := by
  intro n
  induction n with
  | zero => intro x1 M H locs ls hf; cases hf
  | succ n ih =>
    intro x1 M H locs ls hf  hw hl
    replace hf := (fX4_sort_9.eq_2 ..).symm.trans hf
    refine lv_iload_n C.1 C.2.1 dX4_sort_9 rfl (lv_at hl 1 rfl) ?_
    refine lv_if_lt (tgt := 28) C.1 C.2.1 dX4_sort_10 (by decide) (fun hc1 => ?_) (fun hc1 => ?_)
    · replace hf := ea_if_t hc1 hf
      exact hk28 _ _ _ _ hf hw (lv_sub hl [0] rfl)
    · replace hf := ea_if_f hc1 hf
      refine lv_aload_n C.1 C.2.1 dX4_sort_13 rfl (lv_at hl 0 rfl) ?_
      refine lv_iload_n C.1 C.2.1 dX4_sort_14 rfl (lv_at hl 1 rfl) ?_
      refine lv_aload_n C.1 C.2.1 dX4_sort_15 rfl (lv_at hl 0 rfl) ?_
      refine gf_X4_17 C hw (hX 70 4 rfl) dX4_sort_16 ?_
      obtain ⟨M3, he2, hf⟩ := ea_cv_s hf
      refine ea_runv hw (cl_X4_81 C hw (hX 70 4 rfl) (As := [.int x1, .int (M.1 70 1)]) (rest := []) (mX4_sink (l := l) (E := E) (ids := ids) hX he2) (by decide) rfl hl.1 rfl (Nat.le_of_ble_eq_true rfl) dX4_sort_19 ⟨Nat.le_refl _, Nat.le_refl _⟩) (fun H locs hw => ?_)
      refine lv_iinc (v := x1 + (-1 : Int32)) (lv' := [(1, .int (x1 + (-1 : Int32))), (0, .ref (E.1 70))]) C.1 C.2.1 dX4_sort_22 hl (k := 1) rfl rfl (by decide) rfl (fun ls hl => ?_)
      refine lv_goto (tgt := 9) C.1 C.2.1 dX4_sort_25 (by decide) ?_
      exact ih _ _ _ _ _ hf hw (lv_sub hl [1, 0] rfl)
set_option maxHeartbeats 4000000 in
set_option maxRecDepth 20000 in
theorem wX4_sort_35 (C : ea_C p s m args meth cd cX4_sort 3 none RX4) (hX : ea_X ids) : ∀ (n : Nat) (x1 : Int32) (M : eM) (H : Heap) (locs : List Loc) (ls : Array Slot), fX4_sort_35 n x1 M = some res → ea_w E ids M s H locs → lv_has ls 3 [(0, .ref (E.1 70)), (1, .int x1)] → W p l e (ea_rm 1 26) s m args below meth cd H locs 0 0 (MQ below (ea_Qv E ids res) args s 0 0 (ea_Ad E ids)) (F0 m 35 ls []) := by
  intro n
  induction n with
  | zero => intro x1 M H locs ls hf; cases hf
  | succ n ih =>
    intro x1 M H locs ls hf  hw hl
    replace hf := (fX4_sort_35.eq_2 ..).symm.trans hf
    refine lv_iload_n C.1 C.2.1 dX4_sort_35 rfl (lv_at hl 1 rfl) ?_
    refine lv_if_le (tgt := 77) C.1 C.2.1 dX4_sort_36 (by decide) (fun hc1 => ?_) (fun hc1 => ?_)
    · replace hf := ea_if_t hc1 hf
      exact ea_vret C hw hf dX4_sort_77
    · replace hf := ea_if_f hc1 hf
      refine lv_aload_n C.1 C.2.1 dX4_sort_39 rfl (lv_at hl 0 rfl) ?_
      refine gf_X4_11 C hw (hX 70 4 rfl) dX4_sort_40 ?_
      refine W.eq (g2 := F0 m 43 ls [.ref (E.1 71)]) rfl ?_
      refine lv_iconst (v := 0) C.1 C.2.1 dX4_sort_43 (by decide) ?_
      refine ea_iald C hw (show ea_ok ids 71 20 from ok_4_0 (hX 70 4 rfl)) (by decide) dX4_sort_44 ?_
      obtain ⟨y2, ey3, hf⟩ := ea_lt_s hf
      refine ea_topi ey3 ?_
      refine lv_istore_n (lv' := [(2, .int y2), (0, .ref (E.1 70)), (1, .int x1)]) C.1 C.2.1 dX4_sort_45 rfl hl (by decide) rfl (fun ls hl => ?_)
      refine lv_aload_n C.1 C.2.1 dX4_sort_46 rfl (lv_at hl 1 rfl) ?_
      refine gf_X4_11 C hw (hX 70 4 rfl) dX4_sort_47 ?_
      refine W.eq (g2 := F0 m 50 ls [.ref (E.1 71)]) rfl ?_
      refine lv_iconst (v := 0) C.1 C.2.1 dX4_sort_50 (by decide) ?_
      refine lv_aload_n C.1 C.2.1 dX4_sort_51 rfl (lv_at hl 1 rfl) ?_
      refine gf_X4_11 C hw (hX 70 4 rfl) dX4_sort_52 ?_
      refine W.eq (g2 := F0 m 55 ls [.ref (E.1 71), .int (0 : Int32), .ref (E.1 71)]) rfl ?_
      refine lv_iload_n C.1 C.2.1 dX4_sort_55 rfl (lv_at hl 2 rfl) ?_
      obtain ⟨hc4, hf⟩ := ea_ck_s hf
      refine ea_iald C hw (show ea_ok ids 71 20 from ok_4_0 (hX 70 4 rfl)) hc4 dX4_sort_56 ?_
      refine ea_iast C hw (show ea_ok ids 71 20 from ok_4_0 (hX 70 4 rfl)) (by decide) dX4_sort_57 (fun H locs hw => ?_)
      refine lv_aload_n C.1 C.2.1 dX4_sort_58 rfl (lv_at hl 1 rfl) ?_
      refine gf_X4_11 C hw (hX 70 4 rfl) dX4_sort_59 ?_
      refine W.eq (g2 := F0 m 62 ls [.ref (E.1 71)]) rfl ?_
      refine lv_iload_n C.1 C.2.1 dX4_sort_62 rfl (lv_at hl 2 rfl) ?_
      refine lv_iload_n C.1 C.2.1 dX4_sort_63 rfl (lv_at hl 0 rfl) ?_
      obtain ⟨hc5, hf⟩ := ea_ck_s hf
      refine ea_iast C hw (show ea_ok ids 71 20 from ok_4_0 (hX 70 4 rfl)) hc5 dX4_sort_64 (fun H locs hw => ?_)
      refine lv_aload_n C.1 C.2.1 dX4_sort_65 rfl (lv_at hl 1 rfl) ?_
      refine lv_iconst (v := 0) C.1 C.2.1 dX4_sort_66 (by decide) ?_
      refine lv_iload_n C.1 C.2.1 dX4_sort_67 rfl (lv_at hl 2 rfl) ?_
      obtain ⟨M7, he6, hf⟩ := ea_cv_s hf
      refine ea_runv hw (cl_X4_81 C hw (hX 70 4 rfl) (As := [.int (0 : Int32), .int x1]) (rest := []) (mX4_sink (l := l) (E := E) (ids := ids) hX he6) (by decide) rfl hl.1 rfl (Nat.le_of_ble_eq_true rfl) dX4_sort_68 ⟨Nat.le_refl _, Nat.le_refl _⟩) (fun H locs hw => ?_)
      refine lv_iinc (v := x1 + (-1 : Int32)) (lv' := [(1, .int (x1 + (-1 : Int32))), (2, .int y2), (0, .ref (E.1 70))]) C.1 C.2.1 dX4_sort_71 hl (k := 2) rfl rfl (by decide) rfl (fun ls hl => ?_)
      refine lv_goto (tgt := 35) C.1 C.2.1 dX4_sort_74 (by decide) ?_
      exact ih _ _ _ _ _ hf hw (lv_sub hl [2, 0] rfl)
set_option maxHeartbeats 4000000 in
set_option maxRecDepth 20000 in
theorem wX4_sort_28 (C : ea_C p s m args meth cd cX4_sort 3 none RX4) (hX : ea_X ids) : ∀  (M : eM) (H : Heap) (locs : List Loc) (ls : Array Slot), fX4_sort_28 M = some res → ea_w E ids M s H locs → lv_has ls 3 [(0, .ref (E.1 70))] → W p l e (ea_rm 1 26) s m args below meth cd H locs 0 0 (MQ below (ea_Qv E ids res) args s 0 0 (ea_Ad E ids)) (F0 m 28 ls []) := by
  intro M H locs ls hf  hw hl
  replace hf := (fX4_sort_28.eq_1 ..).symm.trans hf
  refine lv_aload_n C.1 C.2.1 dX4_sort_28 rfl (lv_at hl 0 rfl) ?_
  refine gf_X4_17 C hw (hX 70 4 rfl) dX4_sort_29 ?_
  refine lv_iconst (v := 1) C.1 C.2.1 dX4_sort_32 (by decide) ?_
  refine lv_isub C.1 C.2.1 dX4_sort_33 ?_
  refine lv_istore_n (lv' := [(1, .int ((M.1 70 1) - (1 : Int32))), (0, .ref (E.1 70))]) C.1 C.2.1 dX4_sort_34 rfl hl (by decide) rfl (fun ls hl => ?_)
  exact wX4_sort_35 C hX ea_N _ _ _ _ _ hf hw (lv_sub hl [1, 0] rfl)
set_option maxHeartbeats 4000000 in
set_option maxRecDepth 20000 in
theorem wX4_sort_0 (C : ea_C p s m args meth cd cX4_sort 3 none RX4) (hX : ea_X ids) : ∀  (M : eM) (H : Heap) (locs : List Loc) (ls : Array Slot), fX4_sort_0 M = some res → ea_w E ids M s H locs → lv_has ls 3 [(0, .ref (E.1 70))] → W p l e (ea_rm 1 26) s m args below meth cd H locs 0 0 (MQ below (ea_Qv E ids res) args s 0 0 (ea_Ad E ids)) (F0 m 0 ls []) := by
  intro M H locs ls hf  hw hl
  replace hf := (fX4_sort_0.eq_1 ..).symm.trans hf
  refine lv_aload_n C.1 C.2.1 dX4_sort_0 rfl (lv_at hl 0 rfl) ?_
  refine gf_X4_17 C hw (hX 70 4 rfl) dX4_sort_1 ?_
  refine lv_iconst (v := 2) C.1 C.2.1 dX4_sort_4 (by decide) ?_
  refine lv_idiv C.1 C.2.1 dX4_sort_5 (by decide) ?_
  refine lv_iconst (v := 1) C.1 C.2.1 dX4_sort_6 (by decide) ?_
  refine lv_isub C.1 C.2.1 dX4_sort_7 ?_
  obtain ⟨y1, ey2, hf⟩ := ea_lt_s hf
  refine ea_topi ey2 ?_
  refine lv_istore_n (lv' := [(1, .int y1), (0, .ref (E.1 70))]) C.1 C.2.1 dX4_sort_8 rfl hl (by decide) rfl (fun ls hl => ?_)
  exact wX4_sort_9 C hX (wX4_sort_28 C hX) ea_N _ _ _ _ _ hf hw (lv_sub hl [1, 0] rfl)
set_option maxHeartbeats 4000000 in
set_option maxRecDepth 20000 in
theorem mX4_sort {l : Launch} {E : eE} {ids : List Nat} (hX : ea_X ids) {M : eM} {res : eM} (hf : fX4_sort M = some res) : ea_Mv l yX4_sort cX4_sort 3 1 26 E ids [.ref (E.1 70)] M res := by
  refine ea_gov (by decide) (Nat.le_of_ble_eq_true rfl) wc_X4_sort ?_
  intro p e s m below meth cd ls C hw hl
  exact wX4_sort_0 C hX  _ _ _ _ hf hw hl
end SX4_sort

def fX4_mostAlike_17 (k74 : eM → Option (Int32 × eM)) (a1 : Nat) : Nat → Int32 → Int32 → Int32 → Nat → Int32 → eM → Option (Int32 × eM)
  | 0, _, _, _, _, _, _ => none
  | n + 1, x2, x3, x4, q5, x6, M => if (M.1 q5 6) < x6 then (k74 M) else (ea_ci (fX1_columnOf q5 x2 M) (fun r3 M4 => ea_ci (fX1_yearFrom q5 x6 M4) (fun r6 M7 => ea_ci (fX1_hoursOf q5 x3 r3 r6 (0 : Int32) M7) (fun r9 M10 => ea_cv (fX5_mix (a1 + 1) (r9 + x4) M10) (fun M12 => ea_cv (fX4_addYear a1 x6 M12) (fun M14 => fX4_mostAlike_17 k74 a1 n x2 x3 x4 q5 (x6 + (1 : Int32)) M14))))))
def fX4_mostAlike_74 (a1 : Nat) (M : eM) : Option (Int32 × eM) := ea_cv (fX4_sort M) (fun M2 => ea_ci (fX4_longestRun M2) (fun r4 M5 => some (r4, M5)))
def fX4_mostAlike_0 (a1 : Nat) (x2 : Int32) (x3 : Int32) (x4 : Int32) (M : eM) : Option (Int32 × eM) := ea_ck (ea_is ((ea_pI M 70 1 (0 : Int32)).2.2 4 0) 1) (ea_lt ((ea_pI M 70 1 (0 : Int32)).2.2 4 0) (fun y2 => fX4_mostAlike_17 (fX4_mostAlike_74 a1) a1 ea_N x2 x3 x4 y2 (0 : Int32) (ea_pI M 70 1 (0 : Int32))))
def fX4_mostAlike (a1 : Nat) (x2 : Int32) (x3 : Int32) (x4 : Int32) (M : eM) : Option (Int32 × eM) := fX4_mostAlike_0 a1 x2 x3 x4 M
section SX4_mostAlike
variable {p : Program} {l : Launch} {e : Env} {s : State} {m : MethodId} {args : Array Value} {below : List Frame} {meth : Method} {cd : Code} {E : eE} {ids : List Nat} {res : Int32 × eM} {a1 : Nat}
set_option maxHeartbeats 4000000 in
set_option maxRecDepth 20000 in
theorem wX4_mostAlike_17 (C : ea_C p s m args meth cd cX4_mostAlike 8 (some .int) RX4) (hX : ea_X ids) (ho1 : ea_ok ids a1 3) {k74 : eM → Option (Int32 × eM)} (hk74 : ∀  (M : eM) (H : Heap) (locs : List Loc) (ls : Array Slot), k74 M = some res → ea_w E ids M s H locs → lv_has ls 8 [(0, .ref (E.1 70))] → W p l e (ea_rm 3 74) s m args below meth cd H locs 0 0 (MQ below (ea_Qi E ids res) args s 0 0 (ea_Ad E ids)) (F0 m 74 ls [])) : ∀ (n : Nat) (x2 : Int32) (x3 : Int32) (x4 : Int32) (q5 : Nat) (x6 : Int32) (M : eM) (H : Heap) (locs : List Loc) (ls : Array Slot), fX4_mostAlike_17 k74 a1 n x2 x3 x4 q5 x6 M = some res → ea_ok ids q5 1 → ea_w E ids M s H locs → lv_has ls 8 [(0, .ref (E.1 70)), (1, .ref (E.1 a1)), (2, .int x2), (3, .int x3), (4, .int x4), (5, .ref (E.1 q5)), (6, .int x6)] → W p l e (ea_rm 3 74) s m args below meth cd H locs 0 0 (MQ below (ea_Qi E ids res) args s 0 0 (ea_Ad E ids)) (F0 m 17 ls []) := by
  intro n
  induction n with
  | zero => intro x2 x3 x4 q5 x6 M H locs ls hf; cases hf
  | succ n ih =>
    intro x2 x3 x4 q5 x6 M H locs ls hf hq5 hw hl
    replace hf := (fX4_mostAlike_17.eq_2 ..).symm.trans hf
    refine lv_iload C.1 C.2.1 dX4_mostAlike_17 (lv_at hl 6 rfl) ?_
    refine lv_aload C.1 C.2.1 dX4_mostAlike_19 (lv_at hl 5 rfl) ?_
    refine gf_X4_31 C hw hq5 dX4_mostAlike_21 ?_
    refine lv_icmp_gt (tgt := 74) C.1 C.2.1 dX4_mostAlike_24 (by decide) (fun hc1 => ?_) (fun hc1 => ?_)
    · replace hf := ea_if_t hc1 hf
      exact hk74 _ _ _ _ hf hw (lv_sub hl [0] rfl)
    · replace hf := ea_if_f hc1 hf
      refine lv_aload C.1 C.2.1 dX4_mostAlike_27 (lv_at hl 5 rfl) ?_
      refine lv_iload_n C.1 C.2.1 dX4_mostAlike_29 rfl (lv_at hl 3 rfl) ?_
      refine lv_aload C.1 C.2.1 dX4_mostAlike_30 (lv_at hl 5 rfl) ?_
      refine lv_iload_n C.1 C.2.1 dX4_mostAlike_32 rfl (lv_at hl 2 rfl) ?_
      obtain ⟨r3, M4, he2, hf⟩ := ea_ci_s hf
      refine ea_runi2 hw (cl_X4_34 C hw hq5 (As := [.int x2]) (rest := [.int x3, .ref (E.1 q5)]) (mX1_columnOf (l := l) (E := E) (ids := ids) hX hq5 he2) (by decide) rfl hl.1 rfl (Nat.le_of_ble_eq_true rfl) dX4_mostAlike_33 ⟨Nat.le_refl _, Nat.le_refl _⟩) (fun H locs hw => ?_)
      refine lv_aload C.1 C.2.1 dX4_mostAlike_36 (lv_at hl 5 rfl) ?_
      refine lv_iload C.1 C.2.1 dX4_mostAlike_38 (lv_at hl 6 rfl) ?_
      obtain ⟨r6, M7, he5, hf⟩ := ea_ci_s hf
      refine ea_runi2 hw (cl_X4_38 C hw hq5 (As := [.int x6]) (rest := [.int r3, .int x3, .ref (E.1 q5)]) (mX1_yearFrom (l := l) (E := E) (ids := ids) hX hq5 he5) (by decide) rfl hl.1 rfl (Nat.le_of_ble_eq_true rfl) dX4_mostAlike_40 ⟨Nat.le_refl _, Nat.le_refl _⟩) (fun H locs hw => ?_)
      refine lv_iconst (v := 0) C.1 C.2.1 dX4_mostAlike_43 (by decide) ?_
      obtain ⟨r9, M10, he8, hf⟩ := ea_ci_s hf
      refine ea_runi2 hw (cl_X4_41 C hw hq5 (As := [.int x3, .int r3, .int r6, .int (0 : Int32)]) (rest := []) (mX1_hoursOf (l := l) (E := E) (ids := ids) hX hq5 he8) (by decide) rfl hl.1 rfl (Nat.le_of_ble_eq_true rfl) dX4_mostAlike_44 ⟨Nat.le_refl _, Nat.le_refl _⟩) (fun H locs hw => ?_)
      refine lv_istore (lv' := [(7, .int r9), (0, .ref (E.1 70)), (1, .ref (E.1 a1)), (2, .int x2), (3, .int x3), (4, .int x4), (5, .ref (E.1 q5)), (6, .int x6)]) C.1 C.2.1 dX4_mostAlike_47 hl (by decide) rfl (fun ls hl => ?_)
      refine lv_aload_n C.1 C.2.1 dX4_mostAlike_49 rfl (lv_at hl 2 rfl) ?_
      refine gf_X4_45 C hw ho1 dX4_mostAlike_50 ?_
      refine lv_iload C.1 C.2.1 dX4_mostAlike_53 (lv_at hl 0 rfl) ?_
      refine lv_iload C.1 C.2.1 dX4_mostAlike_55 (lv_at hl 5 rfl) ?_
      refine lv_iadd C.1 C.2.1 dX4_mostAlike_57 ?_
      obtain ⟨M12, he11, hf⟩ := ea_cv_s hf
      refine ea_runv hw (cl_X4_49 C hw (ok_3_2 ho1) (As := [.int (r9 + x4)]) (rest := []) (mX5_mix (l := l) (E := E) (ids := ids) hX (ok_3_2 ho1) he11) (by decide) rfl hl.1 rfl (Nat.le_of_ble_eq_true rfl) dX4_mostAlike_58 ⟨Nat.le_refl _, Nat.le_refl _⟩) (fun H locs hw => ?_)
      refine lv_aload_n C.1 C.2.1 dX4_mostAlike_61 rfl (lv_at hl 1 rfl) ?_
      refine lv_aload_n C.1 C.2.1 dX4_mostAlike_62 rfl (lv_at hl 2 rfl) ?_
      refine lv_iload C.1 C.2.1 dX4_mostAlike_63 (lv_at hl 7 rfl) ?_
      obtain ⟨M14, he13, hf⟩ := ea_cv_s hf
      refine ea_runv hw (cl_X4_55 C hw (hX 70 4 rfl) (As := [.ref (E.1 a1), .int x6]) (rest := []) (mX4_addYear (l := l) (E := E) (ids := ids) hX ho1 he13) (by decide) rfl hl.1 rfl (Nat.le_of_ble_eq_true rfl) dX4_mostAlike_65 ⟨Nat.le_refl _, Nat.le_refl _⟩) (fun H locs hw => ?_)
      refine lv_iinc (v := x6 + (1 : Int32)) (lv' := [(6, .int (x6 + (1 : Int32))), (7, .int r9), (0, .ref (E.1 70)), (1, .ref (E.1 a1)), (2, .int x2), (3, .int x3), (4, .int x4), (5, .ref (E.1 q5))]) C.1 C.2.1 dX4_mostAlike_68 hl (k := 7) rfl rfl (by decide) rfl (fun ls hl => ?_)
      refine lv_goto (tgt := 17) C.1 C.2.1 dX4_mostAlike_71 (by decide) ?_
      exact ih _ _ _ _ _ _ _ _ _ hf hq5 hw (lv_sub hl [2, 3, 4, 5, 6, 7, 0] rfl)
set_option maxHeartbeats 4000000 in
set_option maxRecDepth 20000 in
theorem wX4_mostAlike_74 (C : ea_C p s m args meth cd cX4_mostAlike 8 (some .int) RX4) (hX : ea_X ids) (ho1 : ea_ok ids a1 3) : ∀  (M : eM) (H : Heap) (locs : List Loc) (ls : Array Slot), fX4_mostAlike_74 a1 M = some res → ea_w E ids M s H locs → lv_has ls 8 [(0, .ref (E.1 70))] → W p l e (ea_rm 3 74) s m args below meth cd H locs 0 0 (MQ below (ea_Qi E ids res) args s 0 0 (ea_Ad E ids)) (F0 m 74 ls []) := by
  intro M H locs ls hf  hw hl
  replace hf := (fX4_mostAlike_74.eq_1 ..).symm.trans hf
  refine lv_aload_n C.1 C.2.1 dX4_mostAlike_74 rfl (lv_at hl 0 rfl) ?_
  obtain ⟨M2, he1, hf⟩ := ea_cv_s hf
  refine ea_runv hw (cl_X4_59 C hw (hX 70 4 rfl) (As := []) (rest := []) (mX4_sort (l := l) (E := E) (ids := ids) hX he1) (by decide) rfl hl.1 rfl (Nat.le_of_ble_eq_true rfl) dX4_mostAlike_75 ⟨Nat.le_refl _, Nat.le_refl _⟩) (fun H locs hw => ?_)
  refine lv_aload_n C.1 C.2.1 dX4_mostAlike_78 rfl (lv_at hl 0 rfl) ?_
  obtain ⟨r4, M5, he3, hf⟩ := ea_ci_s hf
  refine ea_runi2 hw (cl_X4_62 C hw (hX 70 4 rfl) (As := []) (rest := []) (mX4_longestRun (l := l) (E := E) (ids := ids) hX he3) (by decide) rfl hl.1 rfl (Nat.le_of_ble_eq_true rfl) dX4_mostAlike_79 ⟨Nat.le_refl _, Nat.le_refl _⟩) (fun H locs hw => ?_)
  exact ea_iret C hw hf dX4_mostAlike_82
set_option maxHeartbeats 4000000 in
set_option maxRecDepth 20000 in
theorem wX4_mostAlike_0 (C : ea_C p s m args meth cd cX4_mostAlike 8 (some .int) RX4) (hX : ea_X ids) (ho1 : ea_ok ids a1 3) : ∀ (x2 : Int32) (x3 : Int32) (x4 : Int32) (M : eM) (H : Heap) (locs : List Loc) (ls : Array Slot), fX4_mostAlike_0 a1 x2 x3 x4 M = some res → ea_w E ids M s H locs → lv_has ls 8 [(0, .ref (E.1 70)), (1, .ref (E.1 a1)), (2, .int x2), (3, .int x3), (4, .int x4)] → W p l e (ea_rm 3 74) s m args below meth cd H locs 0 0 (MQ below (ea_Qi E ids res) args s 0 0 (ea_Ad E ids)) (F0 m 0 ls []) := by
  intro x2 x3 x4 M H locs ls hf  hw hl
  replace hf := (fX4_mostAlike_0.eq_1 ..).symm.trans hf
  refine lv_aload_n C.1 C.2.1 dX4_mostAlike_0 rfl (lv_at hl 0 rfl) ?_
  refine lv_iconst (v := 0) C.1 C.2.1 dX4_mostAlike_1 (by decide) ?_
  refine pu_X4_17 C hw (hX 70 4 rfl) dX4_mostAlike_2 (fun H locs hw => ?_)
  refine lv_aload_n C.1 C.2.1 dX4_mostAlike_5 rfl (lv_at hl 1 rfl) ?_
  refine gf_X4_21 C hw ho1 dX4_mostAlike_6 ?_
  refine gf_X4_27 C hw (hX 4 9 rfl) dX4_mostAlike_9 ?_
  obtain ⟨hc1, hf⟩ := ea_ck_s hf
  obtain ⟨y2, ey3, hf⟩ := ea_lt_s hf
  refine ea_topr ey3 ?_
  have ho_y2 : ea_ok ids y2 1 := by rw [← ey3]; exact (ea_dyn hX hc1)
  refine lv_astore (lv' := [(5, .ref (E.1 y2)), (0, .ref (E.1 70)), (1, .ref (E.1 a1)), (2, .int x2), (3, .int x3), (4, .int x4)]) C.1 C.2.1 dX4_mostAlike_12 hl (by decide) rfl (fun ls hl => ?_)
  refine lv_iconst (v := 0) C.1 C.2.1 dX4_mostAlike_14 (by decide) ?_
  refine lv_istore (lv' := [(6, .int (0 : Int32)), (5, .ref (E.1 y2)), (0, .ref (E.1 70)), (1, .ref (E.1 a1)), (2, .int x2), (3, .int x3), (4, .int x4)]) C.1 C.2.1 dX4_mostAlike_15 hl (by decide) rfl (fun ls hl => ?_)
  exact wX4_mostAlike_17 C hX ho1 (wX4_mostAlike_74 C hX ho1) ea_N _ _ _ _ _ _ _ _ _ hf ho_y2 hw (lv_sub hl [2, 3, 4, 5, 6, 1, 0] rfl)
set_option maxHeartbeats 4000000 in
set_option maxRecDepth 20000 in
theorem mX4_mostAlike {l : Launch} {E : eE} {ids : List Nat} (hX : ea_X ids) {a1 : Nat} {x2 : Int32} {x3 : Int32} {x4 : Int32} (ho1 : ea_ok ids a1 3) {M : eM} {res : Int32 × eM} (hf : fX4_mostAlike a1 x2 x3 x4 M = some res) : ea_Mi l yX4_mostAlike cX4_mostAlike 8 (some .int) 3 74 E ids [.ref (E.1 70), .ref (E.1 a1), .int x2, .int x3, .int x4] M res := by
  refine ea_goi (by decide) (Nat.le_of_ble_eq_true rfl) wc_X4_mostAlike ?_
  intro p e s m below meth cd ls C hw hl
  exact wX4_mostAlike_0 C hX ho1 _ _ _ _ _ _ _ hf hw hl
end SX4_mostAlike

def fX10_next_208 (k36 : Int32 → Int32 → Int32 → Int32 → Int32 → Int32 → Int32 → eM → Option (Int32 × eM)) (x1 : Int32) (x2 : Int32) (x3 : Int32) (x4 : Int32) (x5 : Int32) (x6 : Int32) (x7 : Int32) (M : eM) : Option (Int32 × eM) := k36 x1 x2 x3 x4 x5 x6 (x7 + (1 : Int32)) M
def fX10_next_192 (k36 : Int32 → Int32 → Int32 → Int32 → Int32 → Int32 → Int32 → eM → Option (Int32 × eM)) (x1 : Int32) (x2 : Int32) (x6 : Int32) (x7 : Int32) (x8 : Int32) (M : eM) : Option (Int32 × eM) := fX10_next_208 k36 x1 x2 x7 x8 (M.1 50 6) x6 x7 M
def fX10_next_113 (k36 : Int32 → Int32 → Int32 → Int32 → Int32 → Int32 → Int32 → eM → Option (Int32 × eM)) (x1 : Int32) (x2 : Int32) (x3 : Int32) (x4 : Int32) (x5 : Int32) (x6 : Int32) (x7 : Int32) (M : eM) : Option (Int32 × eM) := ea_ci (fX10_isGoneInFront x7 M) (fun r2 M3 => if r2 = 0 then (ea_cv (fX3_find 50 x7 x1 (999 : Int32) M3) (fun M6 => if (2 : Int32) ≤ (M6.1 50 8) then (ea_ci (fX4_mostAlike 50 x7 x1 x2 M6) (fun r9 M10 => if x3 = (-1 : Int32) then (fX10_next_192 k36 x1 x2 x6 x7 r9 M10) else (if (x4 * (M10.1 50 6)) ≤ (r9 * x5) then (fX10_next_208 k36 x1 x2 x3 x4 x5 x6 x7 M10) else (fX10_next_192 k36 x1 x2 x6 x7 r9 M10)))) else (fX10_next_208 k36 x1 x2 x3 x4 x5 x6 x7 M6))) else (fX10_next_208 k36 x1 x2 x3 x4 x5 x6 x7 M3))
def fX10_next_110 (k36 : Int32 → Int32 → Int32 → Int32 → Int32 → Int32 → Int32 → eM → Option (Int32 × eM)) (x1 : Int32) (x2 : Int32) (x3 : Int32) (x4 : Int32) (x5 : Int32) (x7 : Int32) (t0 : Int32) (t1 : Int32) (M : eM) : Option (Int32 × eM) := fX10_next_113 k36 x1 x2 x3 x4 x5 (t1 ||| t0) x7 M
def fX10_next_36 : Nat → Int32 → Int32 → Int32 → Int32 → Int32 → Int32 → Int32 → eM → Option (Int32 × eM)
  | 0, _, _, _, _, _, _, _, _ => none
  | n + 1, x1, x2, x3, x4, x5, x6, x7, M => ea_ck (ea_is (M.2.2 4 0) 1) (ea_ci (fX1_cells (M.2.2 4 0) M) (fun r3 M4 => if r3 ≤ x7 then (some (x3, M4)) else (ea_ci (fX8_isBlank 30 x7 (999 : Int32) M4) (fun r7 M8 => if r7 = 0 then (fX10_next_113 (fX10_next_36 n) x1 x2 x3 x4 x5 x6 x7 M8) else (ea_ck (ea_is (M8.2.2 4 0) 1) (ea_ci (fX1_columnOf (M8.2.2 4 0) x7 M8) (fun r12 M13 => ea_lt ((1 : Int32) <<< (r12 &&& 31)) (fun y14 => if (x6 &&& y14) = 0 then (ea_ci (fX10_isGoneInFront x7 M13) (fun r18 M19 => if r18 = 0 then (fX10_next_110 (fX10_next_36 n) x1 x2 x3 x4 x5 x7 y14 x6 M19) else (fX10_next_110 (fX10_next_36 n) x1 x2 x3 x4 x5 x7 (0 : Int32) x6 M19))) else (fX10_next_208 (fX10_next_36 n) x1 x2 x3 x4 x5 x6 x7 M13)))))))))
def fX10_next_0 (x1 : Int32) (x2 : Int32) (M : eM) : Option (Int32 × eM) := ea_ci (fX10_isStory x1 M) (fun r2 M3 => if r2 = 0 then (some ((-2 : Int32), M3)) else (ea_ci (fX10_isWithin x2 (1 : Int32) (999 : Int32) M3) (fun r6 M7 => if r6 = 0 then (some ((-2 : Int32), M7)) else (fX10_next_36 ea_N x1 x2 (-1 : Int32) (0 : Int32) (0 : Int32) (0 : Int32) (0 : Int32) M7))))
def fX10_next (x1 : Int32) (x2 : Int32) (M : eM) : Option (Int32 × eM) := fX10_next_0 x1 x2 M
section SX10_next
variable {p : Program} {l : Launch} {e : Env} {s : State} {m : MethodId} {args : Array Value} {below : List Frame} {meth : Method} {cd : Code} {E : eE} {ids : List Nat} {res : Int32 × eM}
set_option maxHeartbeats 4000000 in
set_option maxRecDepth 20000 in
theorem wX10_next_208 (C : ea_C p s m args meth cd cX10_next 9 (some .int) RX10) (hX : ea_X ids) {k36 : Int32 → Int32 → Int32 → Int32 → Int32 → Int32 → Int32 → eM → Option (Int32 × eM)} (hk36 : ∀ (x1 : Int32) (x2 : Int32) (x3 : Int32) (x4 : Int32) (x5 : Int32) (x6 : Int32) (x7 : Int32) (M : eM) (H : Heap) (locs : List Loc) (ls : Array Slot), k36 x1 x2 x3 x4 x5 x6 x7 M = some res → ea_w E ids M s H locs → lv_has ls 9 [(0, .ref (E.1 0)), (1, .int x1), (2, .int x2), (3, .int x3), (4, .int x4), (5, .int x5), (6, .int x6), (7, .int x7)] → W p l e (ea_rm 4 103) s m args below meth cd H locs 0 0 (MQ below (ea_Qi E ids res) args s 0 0 (ea_Ad E ids)) (F0 m 36 ls [])) : ∀ (x1 : Int32) (x2 : Int32) (x3 : Int32) (x4 : Int32) (x5 : Int32) (x6 : Int32) (x7 : Int32) (M : eM) (H : Heap) (locs : List Loc) (ls : Array Slot), fX10_next_208 k36 x1 x2 x3 x4 x5 x6 x7 M = some res → ea_w E ids M s H locs → lv_has ls 9 [(0, .ref (E.1 0)), (1, .int x1), (2, .int x2), (3, .int x3), (4, .int x4), (5, .int x5), (6, .int x6), (7, .int x7)] → W p l e (ea_rm 4 103) s m args below meth cd H locs 0 0 (MQ below (ea_Qi E ids res) args s 0 0 (ea_Ad E ids)) (F0 m 208 ls []) := by
  intro x1 x2 x3 x4 x5 x6 x7 M H locs ls hf  hw hl
  replace hf := (fX10_next_208.eq_1 ..).symm.trans hf
  refine lv_iinc (v := x7 + (1 : Int32)) (lv' := [(7, .int (x7 + (1 : Int32))), (0, .ref (E.1 0)), (1, .int x1), (2, .int x2), (3, .int x3), (4, .int x4), (5, .int x5), (6, .int x6)]) C.1 C.2.1 dX10_next_208 hl (k := 7) rfl rfl (by decide) rfl (fun ls hl => ?_)
  refine lv_goto (tgt := 36) C.1 C.2.1 dX10_next_211 (by decide) ?_
  exact hk36 _ _ _ _ _ _ _ _ _ _ _ hf hw (lv_sub hl [1, 2, 3, 4, 5, 6, 7, 0] rfl)
set_option maxHeartbeats 4000000 in
set_option maxRecDepth 20000 in
theorem wX10_next_192 (C : ea_C p s m args meth cd cX10_next 9 (some .int) RX10) (hX : ea_X ids) {k36 : Int32 → Int32 → Int32 → Int32 → Int32 → Int32 → Int32 → eM → Option (Int32 × eM)} (hk36 : ∀ (x1 : Int32) (x2 : Int32) (x3 : Int32) (x4 : Int32) (x5 : Int32) (x6 : Int32) (x7 : Int32) (M : eM) (H : Heap) (locs : List Loc) (ls : Array Slot), k36 x1 x2 x3 x4 x5 x6 x7 M = some res → ea_w E ids M s H locs → lv_has ls 9 [(0, .ref (E.1 0)), (1, .int x1), (2, .int x2), (3, .int x3), (4, .int x4), (5, .int x5), (6, .int x6), (7, .int x7)] → W p l e (ea_rm 4 103) s m args below meth cd H locs 0 0 (MQ below (ea_Qi E ids res) args s 0 0 (ea_Ad E ids)) (F0 m 36 ls [])) : ∀ (x1 : Int32) (x2 : Int32) (x6 : Int32) (x7 : Int32) (x8 : Int32) (M : eM) (H : Heap) (locs : List Loc) (ls : Array Slot), fX10_next_192 k36 x1 x2 x6 x7 x8 M = some res → ea_w E ids M s H locs → lv_has ls 9 [(0, .ref (E.1 0)), (1, .int x1), (2, .int x2), (6, .int x6), (7, .int x7), (8, .int x8)] → W p l e (ea_rm 4 103) s m args below meth cd H locs 0 0 (MQ below (ea_Qi E ids res) args s 0 0 (ea_Ad E ids)) (F0 m 192 ls []) := by
  intro x1 x2 x6 x7 x8 M H locs ls hf  hw hl
  replace hf := (fX10_next_192.eq_1 ..).symm.trans hf
  refine lv_iload C.1 C.2.1 dX10_next_192 (lv_at hl 4 rfl) ?_
  refine lv_istore_n (lv' := [(3, .int x7), (0, .ref (E.1 0)), (1, .int x1), (2, .int x2), (6, .int x6), (7, .int x7), (8, .int x8)]) C.1 C.2.1 dX10_next_194 rfl hl (by decide) rfl (fun ls hl => ?_)
  refine lv_iload C.1 C.2.1 dX10_next_195 (lv_at hl 6 rfl) ?_
  refine lv_istore (lv' := [(4, .int x8), (3, .int x7), (0, .ref (E.1 0)), (1, .int x1), (2, .int x2), (6, .int x6), (7, .int x7), (8, .int x8)]) C.1 C.2.1 dX10_next_197 hl (by decide) rfl (fun ls hl => ?_)
  refine lv_aload_n C.1 C.2.1 dX10_next_199 rfl (lv_at hl 2 rfl) ?_
  refine gf_X10_57 C hw (hX 0 10 rfl) dX10_next_200 ?_
  refine gf_X10_245 C hw (hX 50 3 rfl) dX10_next_203 ?_
  refine lv_istore (lv' := [(5, .int (M.1 50 6)), (4, .int x8), (3, .int x7), (0, .ref (E.1 0)), (1, .int x1), (2, .int x2), (6, .int x6), (7, .int x7), (8, .int x8)]) C.1 C.2.1 dX10_next_206 hl (by decide) rfl (fun ls hl => ?_)
  exact wX10_next_208 C hX hk36 _ _ _ _ _ _ _ _ _ _ _ hf hw (lv_sub hl [3, 4, 5, 2, 1, 0, 6, 7] rfl)
set_option maxHeartbeats 4000000 in
set_option maxRecDepth 20000 in
theorem wX10_next_113 (C : ea_C p s m args meth cd cX10_next 9 (some .int) RX10) (hX : ea_X ids) {k36 : Int32 → Int32 → Int32 → Int32 → Int32 → Int32 → Int32 → eM → Option (Int32 × eM)} (hk36 : ∀ (x1 : Int32) (x2 : Int32) (x3 : Int32) (x4 : Int32) (x5 : Int32) (x6 : Int32) (x7 : Int32) (M : eM) (H : Heap) (locs : List Loc) (ls : Array Slot), k36 x1 x2 x3 x4 x5 x6 x7 M = some res → ea_w E ids M s H locs → lv_has ls 9 [(0, .ref (E.1 0)), (1, .int x1), (2, .int x2), (3, .int x3), (4, .int x4), (5, .int x5), (6, .int x6), (7, .int x7)] → W p l e (ea_rm 4 103) s m args below meth cd H locs 0 0 (MQ below (ea_Qi E ids res) args s 0 0 (ea_Ad E ids)) (F0 m 36 ls [])) : ∀ (x1 : Int32) (x2 : Int32) (x3 : Int32) (x4 : Int32) (x5 : Int32) (x6 : Int32) (x7 : Int32) (M : eM) (H : Heap) (locs : List Loc) (ls : Array Slot), fX10_next_113 k36 x1 x2 x3 x4 x5 x6 x7 M = some res → ea_w E ids M s H locs → lv_has ls 9 [(0, .ref (E.1 0)), (1, .int x1), (2, .int x2), (3, .int x3), (4, .int x4), (5, .int x5), (6, .int x6), (7, .int x7)] → W p l e (ea_rm 4 103) s m args below meth cd H locs 0 0 (MQ below (ea_Qi E ids res) args s 0 0 (ea_Ad E ids)) (F0 m 113 ls []) := by
  intro x1 x2 x3 x4 x5 x6 x7 M H locs ls hf  hw hl
  replace hf := (fX10_next_113.eq_1 ..).symm.trans hf
  refine lv_aload_n C.1 C.2.1 dX10_next_113 rfl (lv_at hl 0 rfl) ?_
  refine lv_iload C.1 C.2.1 dX10_next_114 (lv_at hl 7 rfl) ?_
  obtain ⟨r2, M3, he1, hf⟩ := ea_ci_s hf
  refine ea_runi2 hw (cl_X10_312 C hw (hX 0 10 rfl) (As := [.int x7]) (rest := []) (mX10_isGoneInFront (l := l) (E := E) (ids := ids) hX he1) (by decide) rfl hl.1 rfl (Nat.le_of_ble_eq_true rfl) dX10_next_116 ⟨Nat.le_refl _, Nat.le_refl _⟩) (fun H locs hw => ?_)
  refine lv_if_eq (tgt := 125) C.1 C.2.1 dX10_next_119 (by decide) (fun hc4 => ?_) (fun hc4 => ?_)
  · replace hf := ea_if_t hc4 hf
    refine lv_aload_n C.1 C.2.1 dX10_next_125 rfl (lv_at hl 0 rfl) ?_
    refine gf_X10_57 C hw (hX 0 10 rfl) dX10_next_126 ?_
    refine lv_iload C.1 C.2.1 dX10_next_129 (lv_at hl 7 rfl) ?_
    refine lv_iload_n C.1 C.2.1 dX10_next_131 rfl (lv_at hl 1 rfl) ?_
    refine lv_sipush (v := 999) C.1 C.2.1 dX10_next_132 (by decide) ?_
    obtain ⟨M6, he5, hf⟩ := ea_cv_s hf
    refine ea_runv hw (cl_X10_241 C hw (hX 50 3 rfl) (As := [.int x7, .int x1, .int (999 : Int32)]) (rest := []) (mX3_find (l := l) (E := E) (ids := ids) hX (hX 50 3 rfl) he5) (by decide) rfl hl.1 rfl (Nat.le_of_ble_eq_true rfl) dX10_next_135 ⟨Nat.le_refl _, Nat.le_refl _⟩) (fun H locs hw => ?_)
    refine lv_aload_n C.1 C.2.1 dX10_next_138 rfl (lv_at hl 0 rfl) ?_
    refine gf_X10_57 C hw (hX 0 10 rfl) dX10_next_139 ?_
    refine gf_X10_248 C hw (hX 50 3 rfl) dX10_next_142 ?_
    refine lv_iconst (v := 2) C.1 C.2.1 dX10_next_145 (by decide) ?_
    refine lv_icmp_ge (tgt := 152) C.1 C.2.1 dX10_next_146 (by decide) (fun hc7 => ?_) (fun hc7 => ?_)
    · replace hf := ea_if_t hc7 hf
      refine lv_aload_n C.1 C.2.1 dX10_next_152 rfl (lv_at hl 0 rfl) ?_
      refine gf_X10_67 C hw (hX 0 10 rfl) dX10_next_153 ?_
      refine lv_aload_n C.1 C.2.1 dX10_next_156 rfl (lv_at hl 0 rfl) ?_
      refine gf_X10_57 C hw (hX 0 10 rfl) dX10_next_157 ?_
      refine lv_iload C.1 C.2.1 dX10_next_160 (lv_at hl 7 rfl) ?_
      refine lv_iload_n C.1 C.2.1 dX10_next_162 rfl (lv_at hl 1 rfl) ?_
      refine lv_iload_n C.1 C.2.1 dX10_next_163 rfl (lv_at hl 2 rfl) ?_
      obtain ⟨r9, M10, he8, hf⟩ := ea_ci_s hf
      refine ea_runi2 hw (cl_X10_315 C hw (hX 70 4 rfl) (As := [.ref (E.1 50), .int x7, .int x1, .int x2]) (rest := []) (mX4_mostAlike (l := l) (E := E) (ids := ids) hX (hX 50 3 rfl) he8) (by decide) rfl hl.1 rfl (Nat.le_of_ble_eq_true rfl) dX10_next_164 ⟨Nat.le_refl _, Nat.le_refl _⟩) (fun H locs hw => ?_)
      refine lv_istore (lv' := [(8, .int r9), (0, .ref (E.1 0)), (1, .int x1), (2, .int x2), (3, .int x3), (4, .int x4), (5, .int x5), (6, .int x6), (7, .int x7)]) C.1 C.2.1 dX10_next_167 hl (by decide) rfl (fun ls hl => ?_)
      refine lv_iload_n C.1 C.2.1 dX10_next_169 rfl (lv_at hl 4 rfl) ?_
      refine lv_iconst (v := (-1 : Int32)) C.1 C.2.1 dX10_next_170 (by decide) ?_
      refine lv_icmp_eq (tgt := 192) C.1 C.2.1 dX10_next_171 (by decide) (fun hc11 => ?_) (fun hc11 => ?_)
      · replace hf := ea_if_t hc11 hf
        exact wX10_next_192 C hX hk36 _ _ _ _ _ _ _ _ _ hf hw (lv_sub hl [1, 2, 3, 7, 8, 0] rfl)
      · replace hf := ea_if_f hc11 hf
        refine lv_iload C.1 C.2.1 dX10_next_174 (lv_at hl 0 rfl) ?_
        refine lv_iload C.1 C.2.1 dX10_next_176 (lv_at hl 6 rfl) ?_
        refine lv_imul C.1 C.2.1 dX10_next_178 ?_
        refine lv_iload C.1 C.2.1 dX10_next_179 (lv_at hl 5 rfl) ?_
        refine lv_aload_n C.1 C.2.1 dX10_next_181 rfl (lv_at hl 1 rfl) ?_
        refine gf_X10_57 C hw (hX 0 10 rfl) dX10_next_182 ?_
        refine gf_X10_245 C hw (hX 50 3 rfl) dX10_next_185 ?_
        refine lv_imul C.1 C.2.1 dX10_next_188 ?_
        refine lv_icmp_ge (tgt := 208) C.1 C.2.1 dX10_next_189 (by decide) (fun hc12 => ?_) (fun hc12 => ?_)
        · replace hf := ea_if_t hc12 hf
          exact wX10_next_208 C hX hk36 _ _ _ _ _ _ _ _ _ _ _ hf hw (lv_sub hl [1, 2, 3, 4, 5, 6, 7, 8] rfl)
        · replace hf := ea_if_f hc12 hf
          exact wX10_next_192 C hX hk36 _ _ _ _ _ _ _ _ _ hf hw (lv_sub hl [1, 2, 3, 7, 8, 0] rfl)
    · replace hf := ea_if_f hc7 hf
      refine lv_goto (tgt := 208) C.1 C.2.1 dX10_next_149 (by decide) ?_
      exact wX10_next_208 C hX hk36 _ _ _ _ _ _ _ _ _ _ _ hf hw (lv_sub hl [0, 1, 2, 3, 4, 5, 6, 7] rfl)
  · replace hf := ea_if_f hc4 hf
    refine lv_goto (tgt := 208) C.1 C.2.1 dX10_next_122 (by decide) ?_
    exact wX10_next_208 C hX hk36 _ _ _ _ _ _ _ _ _ _ _ hf hw (lv_sub hl [0, 1, 2, 3, 4, 5, 6, 7] rfl)
set_option maxHeartbeats 4000000 in
set_option maxRecDepth 20000 in
theorem wX10_next_110 (C : ea_C p s m args meth cd cX10_next 9 (some .int) RX10) (hX : ea_X ids) {k36 : Int32 → Int32 → Int32 → Int32 → Int32 → Int32 → Int32 → eM → Option (Int32 × eM)} (hk36 : ∀ (x1 : Int32) (x2 : Int32) (x3 : Int32) (x4 : Int32) (x5 : Int32) (x6 : Int32) (x7 : Int32) (M : eM) (H : Heap) (locs : List Loc) (ls : Array Slot), k36 x1 x2 x3 x4 x5 x6 x7 M = some res → ea_w E ids M s H locs → lv_has ls 9 [(0, .ref (E.1 0)), (1, .int x1), (2, .int x2), (3, .int x3), (4, .int x4), (5, .int x5), (6, .int x6), (7, .int x7)] → W p l e (ea_rm 4 103) s m args below meth cd H locs 0 0 (MQ below (ea_Qi E ids res) args s 0 0 (ea_Ad E ids)) (F0 m 36 ls [])) : ∀ (x1 : Int32) (x2 : Int32) (x3 : Int32) (x4 : Int32) (x5 : Int32) (x7 : Int32) (t0 : Int32) (t1 : Int32) (M : eM) (H : Heap) (locs : List Loc) (ls : Array Slot), fX10_next_110 k36 x1 x2 x3 x4 x5 x7 t0 t1 M = some res → ea_w E ids M s H locs → lv_has ls 9 [(0, .ref (E.1 0)), (1, .int x1), (2, .int x2), (3, .int x3), (4, .int x4), (5, .int x5), (7, .int x7)] → W p l e (ea_rm 4 103) s m args below meth cd H locs 0 0 (MQ below (ea_Qi E ids res) args s 0 0 (ea_Ad E ids)) (F0 m 110 ls [.int t0, .int t1]) := by
  intro x1 x2 x3 x4 x5 x7 t0 t1 M H locs ls hf  hw hl
  replace hf := (fX10_next_110.eq_1 ..).symm.trans hf
  refine lv_ior C.1 C.2.1 dX10_next_110 ?_
  refine lv_istore (lv' := [(6, .int (t1 ||| t0)), (0, .ref (E.1 0)), (1, .int x1), (2, .int x2), (3, .int x3), (4, .int x4), (5, .int x5), (7, .int x7)]) C.1 C.2.1 dX10_next_111 hl (by decide) rfl (fun ls hl => ?_)
  exact wX10_next_113 C hX hk36 _ _ _ _ _ _ _ _ _ _ _ hf hw (lv_sub hl [1, 2, 3, 4, 5, 6, 0, 7] rfl)
set_option maxHeartbeats 4000000 in
set_option maxRecDepth 20000 in
theorem wX10_next_36 (C : ea_C p s m args meth cd cX10_next 9 (some .int) RX10) (hX : ea_X ids) : ∀ (n : Nat) (x1 : Int32) (x2 : Int32) (x3 : Int32) (x4 : Int32) (x5 : Int32) (x6 : Int32) (x7 : Int32) (M : eM) (H : Heap) (locs : List Loc) (ls : Array Slot), fX10_next_36 n x1 x2 x3 x4 x5 x6 x7 M = some res → ea_w E ids M s H locs → lv_has ls 9 [(0, .ref (E.1 0)), (1, .int x1), (2, .int x2), (3, .int x3), (4, .int x4), (5, .int x5), (6, .int x6), (7, .int x7)] → W p l e (ea_rm 4 103) s m args below meth cd H locs 0 0 (MQ below (ea_Qi E ids res) args s 0 0 (ea_Ad E ids)) (F0 m 36 ls []) := by
  intro n
  induction n with
  | zero => intro x1 x2 x3 x4 x5 x6 x7 M H locs ls hf; cases hf
  | succ n ih =>
    intro x1 x2 x3 x4 x5 x6 x7 M H locs ls hf  hw hl
    replace hf := (fX10_next_36.eq_2 ..).symm.trans hf
    refine lv_iload C.1 C.2.1 dX10_next_36 (lv_at hl 7 rfl) ?_
    refine lv_aload_n C.1 C.2.1 dX10_next_38 rfl (lv_at hl 0 rfl) ?_
    refine gf_X10_24 C hw (hX 0 10 rfl) dX10_next_39 ?_
    refine gf_X10_110 C hw (hX 4 9 rfl) dX10_next_42 ?_
    obtain ⟨hc1, hf⟩ := ea_ck_s hf
    obtain ⟨r3, M4, he2, hf⟩ := ea_ci_s hf
    refine ea_runi2 hw (cl_X10_296 C hw (ea_dyn hX hc1) (As := []) (rest := [.int x7]) (mX1_cells (l := l) (E := E) (ids := ids) hX (ea_dyn hX hc1) he2) (by decide) rfl hl.1 rfl (Nat.le_of_ble_eq_true rfl) dX10_next_45 ⟨Nat.le_refl _, Nat.le_refl _⟩) (fun H locs hw => ?_)
    refine lv_icmp_ge (tgt := 214) C.1 C.2.1 dX10_next_48 (by decide) (fun hc5 => ?_) (fun hc5 => ?_)
    · replace hf := ea_if_t hc5 hf
      refine lv_iload_n C.1 C.2.1 dX10_next_214 rfl (lv_at hl 3 rfl) ?_
      exact ea_iret C hw hf dX10_next_215
    · replace hf := ea_if_f hc5 hf
      refine lv_aload_n C.1 C.2.1 dX10_next_51 rfl (lv_at hl 0 rfl) ?_
      refine gf_X10_44 C hw (hX 0 10 rfl) dX10_next_52 ?_
      refine lv_iload C.1 C.2.1 dX10_next_55 (lv_at hl 7 rfl) ?_
      refine lv_sipush (v := 999) C.1 C.2.1 dX10_next_57 (by decide) ?_
      obtain ⟨r7, M8, he6, hf⟩ := ea_ci_s hf
      refine ea_runi2 hw (cl_X10_306 C hw (hX 30 8 rfl) (As := [.int x7, .int (999 : Int32)]) (rest := []) (mX8_isBlank (l := l) (E := E) (ids := ids) hX (hX 30 8 rfl) he6) (by decide) rfl hl.1 rfl (Nat.le_of_ble_eq_true rfl) dX10_next_60 ⟨Nat.le_refl _, Nat.le_refl _⟩) (fun H locs hw => ?_)
      refine lv_if_eq (tgt := 113) C.1 C.2.1 dX10_next_63 (by decide) (fun hc9 => ?_) (fun hc9 => ?_)
      · replace hf := ea_if_t hc9 hf
        exact wX10_next_113 C hX ih _ _ _ _ _ _ _ _ _ _ _ hf hw (lv_sub hl [0, 1, 2, 3, 4, 5, 6, 7] rfl)
      · replace hf := ea_if_f hc9 hf
        refine lv_iconst (v := 1) C.1 C.2.1 dX10_next_66 (by decide) ?_
        refine lv_aload_n C.1 C.2.1 dX10_next_67 rfl (lv_at hl 0 rfl) ?_
        refine gf_X10_24 C hw (hX 0 10 rfl) dX10_next_68 ?_
        refine gf_X10_110 C hw (hX 4 9 rfl) dX10_next_71 ?_
        obtain ⟨hc10, hf⟩ := ea_ck_s hf
        refine lv_iload C.1 C.2.1 dX10_next_74 (lv_at hl 7 rfl) ?_
        obtain ⟨r12, M13, he11, hf⟩ := ea_ci_s hf
        refine ea_runi2 hw (cl_X10_309 C hw (ea_dyn hX hc10) (As := [.int x7]) (rest := [.int (1 : Int32)]) (mX1_columnOf (l := l) (E := E) (ids := ids) hX (ea_dyn hX hc10) he11) (by decide) rfl hl.1 rfl (Nat.le_of_ble_eq_true rfl) dX10_next_76 ⟨Nat.le_refl _, Nat.le_refl _⟩) (fun H locs hw => ?_)
        refine lv_ishl C.1 C.2.1 dX10_next_79 ?_
        obtain ⟨y14, ey15, hf⟩ := ea_lt_s hf
        refine ea_topi ey15 ?_
        refine lv_istore (lv' := [(8, .int y14), (0, .ref (E.1 0)), (1, .int x1), (2, .int x2), (3, .int x3), (4, .int x4), (5, .int x5), (6, .int x6), (7, .int x7)]) C.1 C.2.1 dX10_next_80 hl (by decide) rfl (fun ls hl => ?_)
        refine lv_iload C.1 C.2.1 dX10_next_82 (lv_at hl 7 rfl) ?_
        refine lv_iload C.1 C.2.1 dX10_next_84 (lv_at hl 0 rfl) ?_
        refine lv_iand C.1 C.2.1 dX10_next_86 ?_
        refine lv_if_eq (tgt := 93) C.1 C.2.1 dX10_next_87 (by decide) (fun hc16 => ?_) (fun hc16 => ?_)
        · replace hf := ea_if_t hc16 hf
          refine lv_iload C.1 C.2.1 dX10_next_93 (lv_at hl 7 rfl) ?_
          refine lv_aload_n C.1 C.2.1 dX10_next_95 rfl (lv_at hl 1 rfl) ?_
          refine lv_iload C.1 C.2.1 dX10_next_96 (lv_at hl 8 rfl) ?_
          obtain ⟨r18, M19, he17, hf⟩ := ea_ci_s hf
          refine ea_runi2 hw (cl_X10_312 C hw (hX 0 10 rfl) (As := [.int x7]) (rest := [.int x6]) (mX10_isGoneInFront (l := l) (E := E) (ids := ids) hX he17) (by decide) rfl hl.1 rfl (Nat.le_of_ble_eq_true rfl) dX10_next_98 ⟨Nat.le_refl _, Nat.le_refl _⟩) (fun H locs hw => ?_)
          refine lv_if_eq (tgt := 108) C.1 C.2.1 dX10_next_101 (by decide) (fun hc20 => ?_) (fun hc20 => ?_)
          · replace hf := ea_if_t hc20 hf
            refine lv_iload C.1 C.2.1 dX10_next_108 (lv_at hl 0 rfl) ?_
            exact wX10_next_110 C hX ih _ _ _ _ _ _ _ _ _ _ _ _ hf hw (lv_sub hl [1, 2, 3, 4, 5, 6, 8] rfl)
          · replace hf := ea_if_f hc20 hf
            refine lv_iconst (v := 0) C.1 C.2.1 dX10_next_104 (by decide) ?_
            refine lv_goto (tgt := 110) C.1 C.2.1 dX10_next_105 (by decide) ?_
            exact wX10_next_110 C hX ih _ _ _ _ _ _ _ _ _ _ _ _ hf hw (lv_sub hl [1, 2, 3, 4, 5, 6, 8] rfl)
        · replace hf := ea_if_f hc16 hf
          refine lv_goto (tgt := 208) C.1 C.2.1 dX10_next_90 (by decide) ?_
          exact wX10_next_208 C hX ih _ _ _ _ _ _ _ _ _ _ _ hf hw (lv_sub hl [1, 2, 3, 4, 5, 6, 7, 8] rfl)
set_option maxHeartbeats 4000000 in
set_option maxRecDepth 20000 in
theorem wX10_next_0 (C : ea_C p s m args meth cd cX10_next 9 (some .int) RX10) (hX : ea_X ids) : ∀ (x1 : Int32) (x2 : Int32) (M : eM) (H : Heap) (locs : List Loc) (ls : Array Slot), fX10_next_0 x1 x2 M = some res → ea_w E ids M s H locs → lv_has ls 9 [(0, .ref (E.1 0)), (1, .int x1), (2, .int x2)] → W p l e (ea_rm 4 103) s m args below meth cd H locs 0 0 (MQ below (ea_Qi E ids res) args s 0 0 (ea_Ad E ids)) (F0 m 0 ls []) := by
  intro x1 x2 M H locs ls hf  hw hl
  replace hf := (fX10_next_0.eq_1 ..).symm.trans hf
  refine lv_aload_n C.1 C.2.1 dX10_next_0 rfl (lv_at hl 0 rfl) ?_
  refine lv_iload_n C.1 C.2.1 dX10_next_1 rfl (lv_at hl 1 rfl) ?_
  obtain ⟨r2, M3, he1, hf⟩ := ea_ci_s hf
  refine ea_runi2 hw (cl_X10_163 C hw (hX 0 10 rfl) (As := [.int x1]) (rest := []) (mX10_isStory (l := l) (E := E) (ids := ids) hX he1) (by decide) rfl hl.1 rfl (Nat.le_of_ble_eq_true rfl) dX10_next_2 ⟨Nat.le_refl _, Nat.le_refl _⟩) (fun H locs hw => ?_)
  refine lv_if_eq (tgt := 19) C.1 C.2.1 dX10_next_5 (by decide) (fun hc4 => ?_) (fun hc4 => ?_)
  · replace hf := ea_if_t hc4 hf
    refine lv_bipush (v := (-2 : Int32)) C.1 C.2.1 dX10_next_19 (by decide) ?_
    exact ea_iret C hw hf dX10_next_21
  · replace hf := ea_if_f hc4 hf
    refine lv_iload_n C.1 C.2.1 dX10_next_8 rfl (lv_at hl 2 rfl) ?_
    refine lv_iconst (v := 1) C.1 C.2.1 dX10_next_9 (by decide) ?_
    refine lv_sipush (v := 999) C.1 C.2.1 dX10_next_10 (by decide) ?_
    obtain ⟨r6, M7, he5, hf⟩ := ea_ci_s hf
    refine ea_runi2 hw (cl_X10_133 C hw (As := [.int x2, .int (1 : Int32), .int (999 : Int32)]) (rest := []) (mX10_isWithin (l := l) (E := E) (ids := ids) hX he5) (by decide) rfl hl.1 rfl (Nat.le_of_ble_eq_true rfl) dX10_next_13 ⟨Nat.le_refl _, Nat.le_refl _⟩) (fun H locs hw => ?_)
    refine lv_if_ne (tgt := 22) C.1 C.2.1 dX10_next_16 (by decide) (fun hc8 => ?_) (fun hc8 => ?_)
    · replace hf := ea_if_f hc8 hf
      refine lv_iconst (v := (-1 : Int32)) C.1 C.2.1 dX10_next_22 (by decide) ?_
      refine lv_istore_n (lv' := [(3, .int (-1 : Int32)), (0, .ref (E.1 0)), (1, .int x1), (2, .int x2)]) C.1 C.2.1 dX10_next_23 rfl hl (by decide) rfl (fun ls hl => ?_)
      refine lv_iconst (v := 0) C.1 C.2.1 dX10_next_24 (by decide) ?_
      refine lv_istore (lv' := [(4, .int (0 : Int32)), (3, .int (-1 : Int32)), (0, .ref (E.1 0)), (1, .int x1), (2, .int x2)]) C.1 C.2.1 dX10_next_25 hl (by decide) rfl (fun ls hl => ?_)
      refine lv_iconst (v := 0) C.1 C.2.1 dX10_next_27 (by decide) ?_
      refine lv_istore (lv' := [(5, .int (0 : Int32)), (4, .int (0 : Int32)), (3, .int (-1 : Int32)), (0, .ref (E.1 0)), (1, .int x1), (2, .int x2)]) C.1 C.2.1 dX10_next_28 hl (by decide) rfl (fun ls hl => ?_)
      refine lv_iconst (v := 0) C.1 C.2.1 dX10_next_30 (by decide) ?_
      refine lv_istore (lv' := [(6, .int (0 : Int32)), (5, .int (0 : Int32)), (4, .int (0 : Int32)), (3, .int (-1 : Int32)), (0, .ref (E.1 0)), (1, .int x1), (2, .int x2)]) C.1 C.2.1 dX10_next_31 hl (by decide) rfl (fun ls hl => ?_)
      refine lv_iconst (v := 0) C.1 C.2.1 dX10_next_33 (by decide) ?_
      refine lv_istore (lv' := [(7, .int (0 : Int32)), (6, .int (0 : Int32)), (5, .int (0 : Int32)), (4, .int (0 : Int32)), (3, .int (-1 : Int32)), (0, .ref (E.1 0)), (1, .int x1), (2, .int x2)]) C.1 C.2.1 dX10_next_34 hl (by decide) rfl (fun ls hl => ?_)
      exact wX10_next_36 C hX ea_N _ _ _ _ _ _ _ _ _ _ _ hf hw (lv_sub hl [5, 6, 7, 4, 3, 2, 1, 0] rfl)
    · replace hf := ea_if_t hc8 hf
      refine lv_bipush (v := (-2 : Int32)) C.1 C.2.1 dX10_next_19 (by decide) ?_
      exact ea_iret C hw hf dX10_next_21
set_option maxHeartbeats 4000000 in
set_option maxRecDepth 20000 in
theorem mX10_next {l : Launch} {E : eE} {ids : List Nat} (hX : ea_X ids) {x1 : Int32} {x2 : Int32} {M : eM} {res : Int32 × eM} (hf : fX10_next x1 x2 M = some res) : ea_Mi l yX10_next cX10_next 9 (some .int) 4 103 E ids [.ref (E.1 0), .int x1, .int x2] M res := by
  refine ea_goi (by decide) (Nat.le_of_ble_eq_true rfl) wc_X10_next ?_
  intro p e s m below meth cd ls C hw hl
  exact wX10_next_0 C hX _ _ _ _ _ _ hf hw hl
end SX10_next

def fX10_pair_54 (t0 : Int32) (t1 : Int32) (M : eM) : Option (Int32 × eM) := ea_ci (fX3_pairPart 50 t1 t0 M) (fun r2 M3 => some (r2, M3))
def fX10_pair_0 (x1 : Int32) (x2 : Int32) (x3 : Int32) (x4 : Int32) (x5 : Int32) (M : eM) : Option (Int32 × eM) := ea_ci (fX10_mayFit x1 x2 x3 M) (fun r2 M3 => if r2 = 0 then (some ((-2 : Int32), M3)) else (if x4 < 0 then (some ((-2 : Int32), M3)) else (ea_ci (fX10_isWithin x5 (0 : Int32) (1 : Int32) M3) (fun r7 M8 => if r7 = 0 then (some ((-2 : Int32), M8)) else (ea_cv (fX3_find 50 x1 x2 x3 M8) (fun M11 => if x5 = 0 then (fX10_pair_54 (1 : Int32) x4 M11) else (fX10_pair_54 (0 : Int32) x4 M11)))))))
def fX10_pair (x1 : Int32) (x2 : Int32) (x3 : Int32) (x4 : Int32) (x5 : Int32) (M : eM) : Option (Int32 × eM) := fX10_pair_0 x1 x2 x3 x4 x5 M
section SX10_pair
variable {p : Program} {l : Launch} {e : Env} {s : State} {m : MethodId} {args : Array Value} {below : List Frame} {meth : Method} {cd : Code} {E : eE} {ids : List Nat} {res : Int32 × eM}
set_option maxHeartbeats 4000000 in
set_option maxRecDepth 20000 in
theorem wX10_pair_54 (C : ea_C p s m args meth cd cX10_pair 6 (some .int) RX10) (hX : ea_X ids) : ∀ (t0 : Int32) (t1 : Int32) (M : eM) (H : Heap) (locs : List Loc) (ls : Array Slot), fX10_pair_54 t0 t1 M = some res → ea_w E ids M s H locs → lv_has ls 6 [] → W p l e (ea_rm 4 103) s m args below meth cd H locs 0 0 (MQ below (ea_Qi E ids res) args s 0 0 (ea_Ad E ids)) (F0 m 54 ls [.int t0, .int t1, .ref (E.1 50)]) := by
  intro t0 t1 M H locs ls hf  hw hl
  replace hf := (fX10_pair_54.eq_1 ..).symm.trans hf
  obtain ⟨r2, M3, he1, hf⟩ := ea_ci_s hf
  refine ea_runi2 hw (cl_X10_254 C hw (hX 50 3 rfl) (As := [.int t1, .int t0]) (rest := []) (mX3_pairPart (l := l) (E := E) (ids := ids) hX (hX 50 3 rfl) he1) (by decide) rfl hl.1 rfl (Nat.le_of_ble_eq_true rfl) dX10_pair_54 ⟨Nat.le_refl _, Nat.le_refl _⟩) (fun H locs hw => ?_)
  exact ea_iret C hw hf dX10_pair_57
set_option maxHeartbeats 4000000 in
set_option maxRecDepth 20000 in
theorem wX10_pair_0 (C : ea_C p s m args meth cd cX10_pair 6 (some .int) RX10) (hX : ea_X ids) : ∀ (x1 : Int32) (x2 : Int32) (x3 : Int32) (x4 : Int32) (x5 : Int32) (M : eM) (H : Heap) (locs : List Loc) (ls : Array Slot), fX10_pair_0 x1 x2 x3 x4 x5 M = some res → ea_w E ids M s H locs → lv_has ls 6 [(0, .ref (E.1 0)), (1, .int x1), (2, .int x2), (3, .int x3), (4, .int x4), (5, .int x5)] → W p l e (ea_rm 4 103) s m args below meth cd H locs 0 0 (MQ below (ea_Qi E ids res) args s 0 0 (ea_Ad E ids)) (F0 m 0 ls []) := by
  intro x1 x2 x3 x4 x5 M H locs ls hf  hw hl
  replace hf := (fX10_pair_0.eq_1 ..).symm.trans hf
  refine lv_aload_n C.1 C.2.1 dX10_pair_0 rfl (lv_at hl 0 rfl) ?_
  refine lv_iload_n C.1 C.2.1 dX10_pair_1 rfl (lv_at hl 1 rfl) ?_
  refine lv_iload_n C.1 C.2.1 dX10_pair_2 rfl (lv_at hl 2 rfl) ?_
  refine lv_iload_n C.1 C.2.1 dX10_pair_3 rfl (lv_at hl 3 rfl) ?_
  obtain ⟨r2, M3, he1, hf⟩ := ea_ci_s hf
  refine ea_runi2 hw (cl_X10_238 C hw (hX 0 10 rfl) (As := [.int x1, .int x2, .int x3]) (rest := []) (mX10_mayFit (l := l) (E := E) (ids := ids) hX he1) (by decide) rfl hl.1 rfl (Nat.le_of_ble_eq_true rfl) dX10_pair_4 ⟨Nat.le_refl _, Nat.le_refl _⟩) (fun H locs hw => ?_)
  refine lv_if_eq (tgt := 25) C.1 C.2.1 dX10_pair_7 (by decide) (fun hc4 => ?_) (fun hc4 => ?_)
  · replace hf := ea_if_t hc4 hf
    refine lv_bipush (v := (-2 : Int32)) C.1 C.2.1 dX10_pair_25 (by decide) ?_
    exact ea_iret C hw hf dX10_pair_27
  · replace hf := ea_if_f hc4 hf
    refine lv_iload C.1 C.2.1 dX10_pair_10 (lv_at hl 4 rfl) ?_
    refine lv_if_lt (tgt := 25) C.1 C.2.1 dX10_pair_12 (by decide) (fun hc5 => ?_) (fun hc5 => ?_)
    · replace hf := ea_if_t hc5 hf
      refine lv_bipush (v := (-2 : Int32)) C.1 C.2.1 dX10_pair_25 (by decide) ?_
      exact ea_iret C hw hf dX10_pair_27
    · replace hf := ea_if_f hc5 hf
      refine lv_iload C.1 C.2.1 dX10_pair_15 (lv_at hl 5 rfl) ?_
      refine lv_iconst (v := 0) C.1 C.2.1 dX10_pair_17 (by decide) ?_
      refine lv_iconst (v := 1) C.1 C.2.1 dX10_pair_18 (by decide) ?_
      obtain ⟨r7, M8, he6, hf⟩ := ea_ci_s hf
      refine ea_runi2 hw (cl_X10_133 C hw (As := [.int x5, .int (0 : Int32), .int (1 : Int32)]) (rest := []) (mX10_isWithin (l := l) (E := E) (ids := ids) hX he6) (by decide) rfl hl.1 rfl (Nat.le_of_ble_eq_true rfl) dX10_pair_19 ⟨Nat.le_refl _, Nat.le_refl _⟩) (fun H locs hw => ?_)
      refine lv_if_ne (tgt := 28) C.1 C.2.1 dX10_pair_22 (by decide) (fun hc9 => ?_) (fun hc9 => ?_)
      · replace hf := ea_if_f hc9 hf
        refine lv_aload_n C.1 C.2.1 dX10_pair_28 rfl (lv_at hl 0 rfl) ?_
        refine gf_X10_57 C hw (hX 0 10 rfl) dX10_pair_29 ?_
        refine lv_iload_n C.1 C.2.1 dX10_pair_32 rfl (lv_at hl 1 rfl) ?_
        refine lv_iload_n C.1 C.2.1 dX10_pair_33 rfl (lv_at hl 2 rfl) ?_
        refine lv_iload_n C.1 C.2.1 dX10_pair_34 rfl (lv_at hl 3 rfl) ?_
        obtain ⟨M11, he10, hf⟩ := ea_cv_s hf
        refine ea_runv hw (cl_X10_241 C hw (hX 50 3 rfl) (As := [.int x1, .int x2, .int x3]) (rest := []) (mX3_find (l := l) (E := E) (ids := ids) hX (hX 50 3 rfl) he10) (by decide) rfl hl.1 rfl (Nat.le_of_ble_eq_true rfl) dX10_pair_35 ⟨Nat.le_refl _, Nat.le_refl _⟩) (fun H locs hw => ?_)
        refine lv_aload_n C.1 C.2.1 dX10_pair_38 rfl (lv_at hl 0 rfl) ?_
        refine gf_X10_57 C hw (hX 0 10 rfl) dX10_pair_39 ?_
        refine lv_iload C.1 C.2.1 dX10_pair_42 (lv_at hl 4 rfl) ?_
        refine lv_iload C.1 C.2.1 dX10_pair_44 (lv_at hl 5 rfl) ?_
        refine lv_if_ne (tgt := 53) C.1 C.2.1 dX10_pair_46 (by decide) (fun hc12 => ?_) (fun hc12 => ?_)
        · replace hf := ea_if_f hc12 hf
          refine lv_iconst (v := 0) C.1 C.2.1 dX10_pair_53 (by decide) ?_
          exact wX10_pair_54 C hX _ _ _ _ _ _ hf hw (lv_sub hl [] rfl)
        · replace hf := ea_if_t hc12 hf
          refine lv_iconst (v := 1) C.1 C.2.1 dX10_pair_49 (by decide) ?_
          refine lv_goto (tgt := 54) C.1 C.2.1 dX10_pair_50 (by decide) ?_
          exact wX10_pair_54 C hX _ _ _ _ _ _ hf hw (lv_sub hl [] rfl)
      · replace hf := ea_if_t hc9 hf
        refine lv_bipush (v := (-2 : Int32)) C.1 C.2.1 dX10_pair_25 (by decide) ?_
        exact ea_iret C hw hf dX10_pair_27
set_option maxHeartbeats 4000000 in
set_option maxRecDepth 20000 in
theorem mX10_pair {l : Launch} {E : eE} {ids : List Nat} (hX : ea_X ids) {x1 : Int32} {x2 : Int32} {x3 : Int32} {x4 : Int32} {x5 : Int32} {M : eM} {res : Int32 × eM} (hf : fX10_pair x1 x2 x3 x4 x5 M = some res) : ea_Mi l yX10_pair cX10_pair 6 (some .int) 4 103 E ids [.ref (E.1 0), .int x1, .int x2, .int x3, .int x4, .int x5] M res := by
  refine ea_goi (by decide) (Nat.le_of_ble_eq_true rfl) wc_X10_pair ?_
  intro p e s m below meth cd ls C hw hl
  exact wX10_pair_0 C hX _ _ _ _ _ _ _ _ _ hf hw hl
end SX10_pair

def fX8_addRight_0 (a0 : Nat) (x1 : Int32) (x2 : Int32) (x3 : Int32) (x4 : Int32) (x5 : Int32) (M : eM) : Option (eM) := if (20 : Int32) ≤ (M.1 a0 5) then (some M) else (ea_cv (fX8_putEntry a0 (a0 + 3) ((M.1 a0 5) * (6 : Int32)) x1 x2 (0 : Int32) M) (fun M3 => ea_cv (fX8_putShades (a0 + 3) ((M3.1 a0 5) * (6 : Int32)) x3 x4 x5 M3) (fun M5 => some (ea_pI M5 a0 5 ((M5.1 a0 5) + (1 : Int32))))))
def fX8_addRight (a0 : Nat) (x1 : Int32) (x2 : Int32) (x3 : Int32) (x4 : Int32) (x5 : Int32) (M : eM) : Option (eM) := fX8_addRight_0 a0 x1 x2 x3 x4 x5 M
section SX8_addRight
variable {p : Program} {l : Launch} {e : Env} {s : State} {m : MethodId} {args : Array Value} {below : List Frame} {meth : Method} {cd : Code} {E : eE} {ids : List Nat} {res : eM} {a0 : Nat}
set_option maxHeartbeats 4000000 in
set_option maxRecDepth 20000 in
theorem wX8_addRight_0 (C : ea_C p s m args meth cd cX8_addRight 6 none RX8) (hX : ea_X ids) (ho0 : ea_ok ids a0 8) : ∀ (x1 : Int32) (x2 : Int32) (x3 : Int32) (x4 : Int32) (x5 : Int32) (M : eM) (H : Heap) (locs : List Loc) (ls : Array Slot), fX8_addRight_0 a0 x1 x2 x3 x4 x5 M = some res → ea_w E ids M s H locs → lv_has ls 6 [(0, .ref (E.1 a0)), (1, .int x1), (2, .int x2), (3, .int x3), (4, .int x4), (5, .int x5)] → W p l e (ea_rm 1 25) s m args below meth cd H locs 0 0 (MQ below (ea_Qv E ids res) args s 0 0 (ea_Ad E ids)) (F0 m 0 ls []) := by
  intro x1 x2 x3 x4 x5 M H locs ls hf  hw hl
  replace hf := (fX8_addRight_0.eq_1 ..).symm.trans hf
  refine lv_aload_n C.1 C.2.1 dX8_addRight_0 rfl (lv_at hl 0 rfl) ?_
  refine gf_X8_28 C hw ho0 dX8_addRight_1 ?_
  refine lv_bipush (v := 20) C.1 C.2.1 dX8_addRight_4 (by decide) ?_
  refine lv_icmp_ge (tgt := 56) C.1 C.2.1 dX8_addRight_6 (by decide) (fun hc1 => ?_) (fun hc1 => ?_)
  · replace hf := ea_if_t hc1 hf
    exact ea_vret C hw hf dX8_addRight_56
  · replace hf := ea_if_f hc1 hf
    refine lv_aload_n C.1 C.2.1 dX8_addRight_9 rfl (lv_at hl 0 rfl) ?_
    refine lv_aload_n C.1 C.2.1 dX8_addRight_10 rfl (lv_at hl 0 rfl) ?_
    refine gf_X8_18 C hw ho0 dX8_addRight_11 ?_
    refine lv_aload_n C.1 C.2.1 dX8_addRight_14 rfl (lv_at hl 0 rfl) ?_
    refine gf_X8_28 C hw ho0 dX8_addRight_15 ?_
    refine lv_bipush (v := 6) C.1 C.2.1 dX8_addRight_18 (by decide) ?_
    refine lv_imul C.1 C.2.1 dX8_addRight_20 ?_
    refine lv_iload_n C.1 C.2.1 dX8_addRight_21 rfl (lv_at hl 1 rfl) ?_
    refine lv_iload_n C.1 C.2.1 dX8_addRight_22 rfl (lv_at hl 2 rfl) ?_
    refine lv_iconst (v := 0) C.1 C.2.1 dX8_addRight_23 (by decide) ?_
    obtain ⟨M3, he2, hf⟩ := ea_cv_s hf
    refine ea_runv hw (cl_X8_40 C hw ho0 (As := [.ref (E.1 (a0 + 3)), .int ((M.1 a0 5) * (6 : Int32)), .int x1, .int x2, .int (0 : Int32)]) (rest := []) (mX8_putEntry (l := l) (E := E) (ids := ids) hX ho0 (ok_8_2 ho0) he2) (by decide) rfl hl.1 rfl (Nat.le_of_ble_eq_true rfl) dX8_addRight_24 ⟨Nat.le_refl _, Nat.le_refl _⟩) (fun H locs hw => ?_)
    refine lv_aload_n C.1 C.2.1 dX8_addRight_27 rfl (lv_at hl 0 rfl) ?_
    refine gf_X8_18 C hw ho0 dX8_addRight_28 ?_
    refine lv_aload_n C.1 C.2.1 dX8_addRight_31 rfl (lv_at hl 0 rfl) ?_
    refine gf_X8_28 C hw ho0 dX8_addRight_32 ?_
    refine lv_bipush (v := 6) C.1 C.2.1 dX8_addRight_35 (by decide) ?_
    refine lv_imul C.1 C.2.1 dX8_addRight_37 ?_
    refine lv_iload_n C.1 C.2.1 dX8_addRight_38 rfl (lv_at hl 3 rfl) ?_
    refine lv_iload C.1 C.2.1 dX8_addRight_39 (lv_at hl 4 rfl) ?_
    refine lv_iload C.1 C.2.1 dX8_addRight_41 (lv_at hl 5 rfl) ?_
    obtain ⟨M5, he4, hf⟩ := ea_cv_s hf
    refine ea_runv hw (cl_X8_44 C hw (As := [.ref (E.1 (a0 + 3)), .int ((M3.1 a0 5) * (6 : Int32)), .int x3, .int x4, .int x5]) (rest := []) (mX8_putShades (l := l) (E := E) (ids := ids) hX (ok_8_2 ho0) he4) (by decide) rfl hl.1 rfl (Nat.le_of_ble_eq_true rfl) dX8_addRight_43 ⟨Nat.le_refl _, Nat.le_refl _⟩) (fun H locs hw => ?_)
    refine lv_aload_n C.1 C.2.1 dX8_addRight_46 rfl (lv_at hl 0 rfl) ?_
    refine lv_dup C.1 C.2.1 dX8_addRight_47 rfl ?_
    refine gf_X8_28 C hw ho0 dX8_addRight_48 ?_
    refine lv_iconst (v := 1) C.1 C.2.1 dX8_addRight_51 (by decide) ?_
    refine lv_iadd C.1 C.2.1 dX8_addRight_52 ?_
    refine pu_X8_28 C hw ho0 dX8_addRight_53 (fun H locs hw => ?_)
    exact ea_vret C hw hf dX8_addRight_56
set_option maxHeartbeats 4000000 in
set_option maxRecDepth 20000 in
theorem mX8_addRight {l : Launch} {E : eE} {ids : List Nat} (hX : ea_X ids) {a0 : Nat} {x1 : Int32} {x2 : Int32} {x3 : Int32} {x4 : Int32} {x5 : Int32} (ho0 : ea_ok ids a0 8) {M : eM} {res : eM} (hf : fX8_addRight a0 x1 x2 x3 x4 x5 M = some res) : ea_Mv l yX8_addRight cX8_addRight 6 1 25 E ids [.ref (E.1 a0), .int x1, .int x2, .int x3, .int x4, .int x5] M res := by
  refine ea_gov (by decide) (Nat.le_of_ble_eq_true rfl) wc_X8_addRight ?_
  intro p e s m below meth cd ls C hw hl
  exact wX8_addRight_0 C hX ho0 _ _ _ _ _ _ _ _ _ hf hw hl
end SX8_addRight

def fX8_rightsOf_33 (k4 : Int32 → Int32 → Int32 → eM → Option (Int32 × eM)) (a0 : Nat) (x1 : Int32) (x3 : Int32) (t0 : Int32) (t1 : Int32) (M : eM) : Option (Int32 × eM) := k4 x1 (t1 + t0) (x3 + (1 : Int32)) M
def fX8_rightsOf_4 (a0 : Nat) : Nat → Int32 → Int32 → Int32 → eM → Option (Int32 × eM)
  | 0, _, _, _, _ => none
  | n + 1, x1, x2, x3, M => if (M.1 a0 5) ≤ x3 then (some (x2, M)) else (ea_ck (ea_ix ((x3 * (6 : Int32)) + (1 : Int32)) (ea_len (a0 + 3))) (if (M.1 (a0 + 3) ((x3 * (6 : Int32)) + (1 : Int32)).toNatClampNeg) = x1 then (fX8_rightsOf_33 (fX8_rightsOf_4 a0 n) a0 x1 x3 (1 : Int32) x2 M) else (fX8_rightsOf_33 (fX8_rightsOf_4 a0 n) a0 x1 x3 (0 : Int32) x2 M)))
def fX8_rightsOf_0 (a0 : Nat) (x1 : Int32) (M : eM) : Option (Int32 × eM) := fX8_rightsOf_4 a0 ea_N x1 (0 : Int32) (0 : Int32) M
def fX8_rightsOf (a0 : Nat) (x1 : Int32) (M : eM) : Option (Int32 × eM) := fX8_rightsOf_0 a0 x1 M
section SX8_rightsOf
variable {p : Program} {l : Launch} {e : Env} {s : State} {m : MethodId} {args : Array Value} {below : List Frame} {meth : Method} {cd : Code} {E : eE} {ids : List Nat} {res : Int32 × eM} {a0 : Nat}
set_option maxHeartbeats 4000000 in
set_option maxRecDepth 20000 in
theorem wX8_rightsOf_33 (C : ea_C p s m args meth cd cX8_rightsOf 4 (some .int) RX8) (hX : ea_X ids) (ho0 : ea_ok ids a0 8) {k4 : Int32 → Int32 → Int32 → eM → Option (Int32 × eM)} (hk4 : ∀ (x1 : Int32) (x2 : Int32) (x3 : Int32) (M : eM) (H : Heap) (locs : List Loc) (ls : Array Slot), k4 x1 x2 x3 M = some res → ea_w E ids M s H locs → lv_has ls 4 [(0, .ref (E.1 a0)), (1, .int x1), (2, .int x2), (3, .int x3)] → W p l e (ea_rm 0 0) s m args below meth cd H locs 0 0 (MQ below (ea_Qi E ids res) args s 0 0 (ea_Ad E ids)) (F0 m 4 ls [])) : ∀ (x1 : Int32) (x3 : Int32) (t0 : Int32) (t1 : Int32) (M : eM) (H : Heap) (locs : List Loc) (ls : Array Slot), fX8_rightsOf_33 k4 a0 x1 x3 t0 t1 M = some res → ea_w E ids M s H locs → lv_has ls 4 [(0, .ref (E.1 a0)), (1, .int x1), (3, .int x3)] → W p l e (ea_rm 0 0) s m args below meth cd H locs 0 0 (MQ below (ea_Qi E ids res) args s 0 0 (ea_Ad E ids)) (F0 m 33 ls [.int t0, .int t1]) := by
  intro x1 x3 t0 t1 M H locs ls hf  hw hl
  replace hf := (fX8_rightsOf_33.eq_1 ..).symm.trans hf
  refine lv_iadd C.1 C.2.1 dX8_rightsOf_33 ?_
  refine lv_istore_n (lv' := [(2, .int (t1 + t0)), (0, .ref (E.1 a0)), (1, .int x1), (3, .int x3)]) C.1 C.2.1 dX8_rightsOf_34 rfl hl (by decide) rfl (fun ls hl => ?_)
  refine lv_iinc (v := x3 + (1 : Int32)) (lv' := [(3, .int (x3 + (1 : Int32))), (2, .int (t1 + t0)), (0, .ref (E.1 a0)), (1, .int x1)]) C.1 C.2.1 dX8_rightsOf_35 hl (k := 3) rfl rfl (by decide) rfl (fun ls hl => ?_)
  refine lv_goto (tgt := 4) C.1 C.2.1 dX8_rightsOf_38 (by decide) ?_
  exact hk4 _ _ _ _ _ _ _ hf hw (lv_sub hl [2, 3, 1, 0] rfl)
set_option maxHeartbeats 4000000 in
set_option maxRecDepth 20000 in
theorem wX8_rightsOf_4 (C : ea_C p s m args meth cd cX8_rightsOf 4 (some .int) RX8) (hX : ea_X ids) (ho0 : ea_ok ids a0 8) : ∀ (n : Nat) (x1 : Int32) (x2 : Int32) (x3 : Int32) (M : eM) (H : Heap) (locs : List Loc) (ls : Array Slot), fX8_rightsOf_4 a0 n x1 x2 x3 M = some res → ea_w E ids M s H locs → lv_has ls 4 [(0, .ref (E.1 a0)), (1, .int x1), (2, .int x2), (3, .int x3)] → W p l e (ea_rm 0 0) s m args below meth cd H locs 0 0 (MQ below (ea_Qi E ids res) args s 0 0 (ea_Ad E ids)) (F0 m 4 ls []) := by
  intro n
  induction n with
  | zero => intro x1 x2 x3 M H locs ls hf; cases hf
  | succ n ih =>
    intro x1 x2 x3 M H locs ls hf  hw hl
    replace hf := (fX8_rightsOf_4.eq_2 ..).symm.trans hf
    refine lv_iload_n C.1 C.2.1 dX8_rightsOf_4 rfl (lv_at hl 3 rfl) ?_
    refine lv_aload_n C.1 C.2.1 dX8_rightsOf_5 rfl (lv_at hl 0 rfl) ?_
    refine gf_X8_28 C hw ho0 dX8_rightsOf_6 ?_
    refine lv_icmp_ge (tgt := 41) C.1 C.2.1 dX8_rightsOf_9 (by decide) (fun hc1 => ?_) (fun hc1 => ?_)
    · replace hf := ea_if_t hc1 hf
      refine lv_iload_n C.1 C.2.1 dX8_rightsOf_41 rfl (lv_at hl 2 rfl) ?_
      exact ea_iret C hw hf dX8_rightsOf_42
    · replace hf := ea_if_f hc1 hf
      refine lv_iload_n C.1 C.2.1 dX8_rightsOf_12 rfl (lv_at hl 2 rfl) ?_
      refine lv_aload_n C.1 C.2.1 dX8_rightsOf_13 rfl (lv_at hl 0 rfl) ?_
      refine gf_X8_18 C hw ho0 dX8_rightsOf_14 ?_
      refine lv_iload_n C.1 C.2.1 dX8_rightsOf_17 rfl (lv_at hl 3 rfl) ?_
      refine lv_bipush (v := 6) C.1 C.2.1 dX8_rightsOf_18 (by decide) ?_
      refine lv_imul C.1 C.2.1 dX8_rightsOf_20 ?_
      refine lv_iconst (v := 1) C.1 C.2.1 dX8_rightsOf_21 (by decide) ?_
      refine lv_iadd C.1 C.2.1 dX8_rightsOf_22 ?_
      obtain ⟨hc2, hf⟩ := ea_ck_s hf
      refine ea_iald C hw (ok_8_2 ho0) hc2 dX8_rightsOf_23 ?_
      refine lv_iload_n C.1 C.2.1 dX8_rightsOf_24 rfl (lv_at hl 1 rfl) ?_
      refine lv_icmp_ne (tgt := 32) C.1 C.2.1 dX8_rightsOf_25 (by decide) (fun hc3 => ?_) (fun hc3 => ?_)
      · replace hf := ea_if_f hc3 hf
        refine lv_iconst (v := 0) C.1 C.2.1 dX8_rightsOf_32 (by decide) ?_
        exact wX8_rightsOf_33 C hX ho0 ih _ _ _ _ _ _ _ _ hf hw (lv_sub hl [0, 1, 3] rfl)
      · replace hf := ea_if_t hc3 hf
        refine lv_iconst (v := 1) C.1 C.2.1 dX8_rightsOf_28 (by decide) ?_
        refine lv_goto (tgt := 33) C.1 C.2.1 dX8_rightsOf_29 (by decide) ?_
        exact wX8_rightsOf_33 C hX ho0 ih _ _ _ _ _ _ _ _ hf hw (lv_sub hl [0, 1, 3] rfl)
set_option maxHeartbeats 4000000 in
set_option maxRecDepth 20000 in
theorem wX8_rightsOf_0 (C : ea_C p s m args meth cd cX8_rightsOf 4 (some .int) RX8) (hX : ea_X ids) (ho0 : ea_ok ids a0 8) : ∀ (x1 : Int32) (M : eM) (H : Heap) (locs : List Loc) (ls : Array Slot), fX8_rightsOf_0 a0 x1 M = some res → ea_w E ids M s H locs → lv_has ls 4 [(0, .ref (E.1 a0)), (1, .int x1)] → W p l e (ea_rm 0 0) s m args below meth cd H locs 0 0 (MQ below (ea_Qi E ids res) args s 0 0 (ea_Ad E ids)) (F0 m 0 ls []) := by
  intro x1 M H locs ls hf  hw hl
  replace hf := (fX8_rightsOf_0.eq_1 ..).symm.trans hf
  refine lv_iconst (v := 0) C.1 C.2.1 dX8_rightsOf_0 (by decide) ?_
  refine lv_istore_n (lv' := [(2, .int (0 : Int32)), (0, .ref (E.1 a0)), (1, .int x1)]) C.1 C.2.1 dX8_rightsOf_1 rfl hl (by decide) rfl (fun ls hl => ?_)
  refine lv_iconst (v := 0) C.1 C.2.1 dX8_rightsOf_2 (by decide) ?_
  refine lv_istore_n (lv' := [(3, .int (0 : Int32)), (2, .int (0 : Int32)), (0, .ref (E.1 a0)), (1, .int x1)]) C.1 C.2.1 dX8_rightsOf_3 rfl hl (by decide) rfl (fun ls hl => ?_)
  exact wX8_rightsOf_4 C hX ho0 ea_N _ _ _ _ _ _ _ hf hw (lv_sub hl [2, 3, 1, 0] rfl)
set_option maxHeartbeats 4000000 in
set_option maxRecDepth 20000 in
theorem mX8_rightsOf {l : Launch} {E : eE} {ids : List Nat} (hX : ea_X ids) {a0 : Nat} {x1 : Int32} (ho0 : ea_ok ids a0 8) {M : eM} {res : Int32 × eM} (hf : fX8_rightsOf a0 x1 M = some res) : ea_Mi l yX8_rightsOf cX8_rightsOf 4 (some .int) 0 0 E ids [.ref (E.1 a0), .int x1] M res := by
  refine ea_goi (by decide) (Nat.le_of_ble_eq_true rfl) wc_X8_rightsOf ?_
  intro p e s m below meth cd ls C hw hl
  exact wX8_rightsOf_0 C hX ho0 _ _ _ _ _ hf hw hl
end SX8_rightsOf

def fX10_right_0 (x1 : Int32) (x2 : Int32) (x3 : Int32) (x4 : Int32) (x5 : Int32) (M : eM) : Option (Int32 × eM) := ea_ci (fX10_mayTell x1 M) (fun r2 M3 => if r2 = 0 then (some ((-2 : Int32), M3)) else (ea_ci (fX10_isWithin x2 (0 : Int32) ((M3.1 30 4) - (1 : Int32)) M3) (fun r6 M7 => if r6 = 0 then (some ((-2 : Int32), M7)) else (ea_ci (fX10_areShades x3 x4 x5 M7) (fun r10 M11 => if r10 = 0 then (some ((-2 : Int32), M11)) else (if (M11.1 30 5) < (20 : Int32) then (ea_cv (fX8_addRight 30 x1 x2 x3 x4 x5 M11) (fun M15 => ea_ci (fX8_rightsOf 30 x2 M15) (fun r17 M18 => some (r17, M18)))) else (some ((-3 : Int32), M11))))))))
def fX10_right (x1 : Int32) (x2 : Int32) (x3 : Int32) (x4 : Int32) (x5 : Int32) (M : eM) : Option (Int32 × eM) := fX10_right_0 x1 x2 x3 x4 x5 M
section SX10_right
variable {p : Program} {l : Launch} {e : Env} {s : State} {m : MethodId} {args : Array Value} {below : List Frame} {meth : Method} {cd : Code} {E : eE} {ids : List Nat} {res : Int32 × eM}
set_option maxHeartbeats 4000000 in
set_option maxRecDepth 20000 in
theorem wX10_right_0 (C : ea_C p s m args meth cd cX10_right 6 (some .int) RX10) (hX : ea_X ids) : ∀ (x1 : Int32) (x2 : Int32) (x3 : Int32) (x4 : Int32) (x5 : Int32) (M : eM) (H : Heap) (locs : List Loc) (ls : Array Slot), fX10_right_0 x1 x2 x3 x4 x5 M = some res → ea_w E ids M s H locs → lv_has ls 6 [(0, .ref (E.1 0)), (1, .int x1), (2, .int x2), (3, .int x3), (4, .int x4), (5, .int x5)] → W p l e (ea_rm 2 50) s m args below meth cd H locs 0 0 (MQ below (ea_Qi E ids res) args s 0 0 (ea_Ad E ids)) (F0 m 0 ls []) := by
  intro x1 x2 x3 x4 x5 M H locs ls hf  hw hl
  replace hf := (fX10_right_0.eq_1 ..).symm.trans hf
  refine lv_aload_n C.1 C.2.1 dX10_right_0 rfl (lv_at hl 0 rfl) ?_
  refine lv_iload_n C.1 C.2.1 dX10_right_1 rfl (lv_at hl 1 rfl) ?_
  obtain ⟨r2, M3, he1, hf⟩ := ea_ci_s hf
  refine ea_runi2 hw (cl_X10_193 C hw (hX 0 10 rfl) (As := [.int x1]) (rest := []) (mX10_mayTell (l := l) (E := E) (ids := ids) hX he1) (by decide) rfl hl.1 rfl (Nat.le_of_ble_eq_true rfl) dX10_right_2 ⟨Nat.le_refl _, Nat.le_refl _⟩) (fun H locs hw => ?_)
  refine lv_if_eq (tgt := 36) C.1 C.2.1 dX10_right_5 (by decide) (fun hc4 => ?_) (fun hc4 => ?_)
  · replace hf := ea_if_t hc4 hf
    refine lv_bipush (v := (-2 : Int32)) C.1 C.2.1 dX10_right_36 (by decide) ?_
    exact ea_iret C hw hf dX10_right_38
  · replace hf := ea_if_f hc4 hf
    refine lv_iload_n C.1 C.2.1 dX10_right_8 rfl (lv_at hl 2 rfl) ?_
    refine lv_iconst (v := 0) C.1 C.2.1 dX10_right_9 (by decide) ?_
    refine lv_aload_n C.1 C.2.1 dX10_right_10 rfl (lv_at hl 0 rfl) ?_
    refine gf_X10_44 C hw (hX 0 10 rfl) dX10_right_11 ?_
    refine gf_X10_209 C hw (hX 30 8 rfl) dX10_right_14 ?_
    refine lv_iconst (v := 1) C.1 C.2.1 dX10_right_17 (by decide) ?_
    refine lv_isub C.1 C.2.1 dX10_right_18 ?_
    obtain ⟨r6, M7, he5, hf⟩ := ea_ci_s hf
    refine ea_runi2 hw (cl_X10_133 C hw (As := [.int x2, .int (0 : Int32), .int ((M3.1 30 4) - (1 : Int32))]) (rest := []) (mX10_isWithin (l := l) (E := E) (ids := ids) hX he5) (by decide) rfl hl.1 rfl (Nat.le_of_ble_eq_true rfl) dX10_right_19 ⟨Nat.le_refl _, Nat.le_refl _⟩) (fun H locs hw => ?_)
    refine lv_if_eq (tgt := 36) C.1 C.2.1 dX10_right_22 (by decide) (fun hc8 => ?_) (fun hc8 => ?_)
    · replace hf := ea_if_t hc8 hf
      refine lv_bipush (v := (-2 : Int32)) C.1 C.2.1 dX10_right_36 (by decide) ?_
      exact ea_iret C hw hf dX10_right_38
    · replace hf := ea_if_f hc8 hf
      refine lv_iload_n C.1 C.2.1 dX10_right_25 rfl (lv_at hl 3 rfl) ?_
      refine lv_iload C.1 C.2.1 dX10_right_26 (lv_at hl 4 rfl) ?_
      refine lv_iload C.1 C.2.1 dX10_right_28 (lv_at hl 5 rfl) ?_
      obtain ⟨r10, M11, he9, hf⟩ := ea_ci_s hf
      refine ea_runi2 hw (cl_X10_199 C hw (As := [.int x3, .int x4, .int x5]) (rest := []) (mX10_areShades (l := l) (E := E) (ids := ids) hX he9) (by decide) rfl hl.1 rfl (Nat.le_of_ble_eq_true rfl) dX10_right_30 ⟨Nat.le_refl _, Nat.le_refl _⟩) (fun H locs hw => ?_)
      refine lv_if_ne (tgt := 39) C.1 C.2.1 dX10_right_33 (by decide) (fun hc12 => ?_) (fun hc12 => ?_)
      · replace hf := ea_if_f hc12 hf
        refine lv_aload_n C.1 C.2.1 dX10_right_39 rfl (lv_at hl 0 rfl) ?_
        refine gf_X10_44 C hw (hX 0 10 rfl) dX10_right_40 ?_
        refine gf_X10_215 C hw (hX 30 8 rfl) dX10_right_43 ?_
        refine lv_bipush (v := 20) C.1 C.2.1 dX10_right_46 (by decide) ?_
        refine lv_icmp_lt (tgt := 54) C.1 C.2.1 dX10_right_48 (by decide) (fun hc13 => ?_) (fun hc13 => ?_)
        · replace hf := ea_if_t hc13 hf
          refine lv_aload_n C.1 C.2.1 dX10_right_54 rfl (lv_at hl 0 rfl) ?_
          refine gf_X10_44 C hw (hX 0 10 rfl) dX10_right_55 ?_
          refine lv_iload_n C.1 C.2.1 dX10_right_58 rfl (lv_at hl 1 rfl) ?_
          refine lv_iload_n C.1 C.2.1 dX10_right_59 rfl (lv_at hl 2 rfl) ?_
          refine lv_iload_n C.1 C.2.1 dX10_right_60 rfl (lv_at hl 3 rfl) ?_
          refine lv_iload C.1 C.2.1 dX10_right_61 (lv_at hl 4 rfl) ?_
          refine lv_iload C.1 C.2.1 dX10_right_63 (lv_at hl 5 rfl) ?_
          obtain ⟨M15, he14, hf⟩ := ea_cv_s hf
          refine ea_runv hw (cl_X10_218 C hw (hX 30 8 rfl) (As := [.int x1, .int x2, .int x3, .int x4, .int x5]) (rest := []) (mX8_addRight (l := l) (E := E) (ids := ids) hX (hX 30 8 rfl) he14) (by decide) rfl hl.1 rfl (Nat.le_of_ble_eq_true rfl) dX10_right_65 ⟨Nat.le_refl _, Nat.le_refl _⟩) (fun H locs hw => ?_)
          refine lv_aload_n C.1 C.2.1 dX10_right_68 rfl (lv_at hl 0 rfl) ?_
          refine gf_X10_44 C hw (hX 0 10 rfl) dX10_right_69 ?_
          refine lv_iload_n C.1 C.2.1 dX10_right_72 rfl (lv_at hl 2 rfl) ?_
          obtain ⟨r17, M18, he16, hf⟩ := ea_ci_s hf
          refine ea_runi2 hw (cl_X10_222 C hw (hX 30 8 rfl) (As := [.int x2]) (rest := []) (mX8_rightsOf (l := l) (E := E) (ids := ids) hX (hX 30 8 rfl) he16) (by decide) rfl hl.1 rfl (Nat.le_of_ble_eq_true rfl) dX10_right_73 ⟨Nat.le_refl _, Nat.le_refl _⟩) (fun H locs hw => ?_)
          exact ea_iret C hw hf dX10_right_76
        · replace hf := ea_if_f hc13 hf
          refine lv_bipush (v := (-3 : Int32)) C.1 C.2.1 dX10_right_51 (by decide) ?_
          exact ea_iret C hw hf dX10_right_53
      · replace hf := ea_if_t hc12 hf
        refine lv_bipush (v := (-2 : Int32)) C.1 C.2.1 dX10_right_36 (by decide) ?_
        exact ea_iret C hw hf dX10_right_38
set_option maxHeartbeats 4000000 in
set_option maxRecDepth 20000 in
theorem mX10_right {l : Launch} {E : eE} {ids : List Nat} (hX : ea_X ids) {x1 : Int32} {x2 : Int32} {x3 : Int32} {x4 : Int32} {x5 : Int32} {M : eM} {res : Int32 × eM} (hf : fX10_right x1 x2 x3 x4 x5 M = some res) : ea_Mi l yX10_right cX10_right 6 (some .int) 2 50 E ids [.ref (E.1 0), .int x1, .int x2, .int x3, .int x4, .int x5] M res := by
  refine ea_goi (by decide) (Nat.le_of_ble_eq_true rfl) wc_X10_right ?_
  intro p e s m below meth cd ls C hw hl
  exact wX10_right_0 C hX _ _ _ _ _ _ _ _ _ hf hw hl
end SX10_right

def fX10_shows_0 (x1 : Int32) (x2 : Int32) (x3 : Int32) (x4 : Int32) (M : eM) : Option (Int32 × eM) := ea_ci (fX10_isCell x1 M) (fun r2 M3 => if r2 = 0 then (some ((-2 : Int32), M3)) else (ea_ci (fX10_isSide x2 M3) (fun r6 M7 => if r6 = 0 then (some ((-2 : Int32), M7)) else (ea_ci (fX10_isStep x3 M7) (fun r10 M11 => if r10 = 0 then (some ((-2 : Int32), M11)) else (ea_ci (fX10_isColour x4 M11) (fun r14 M15 => if r14 = 0 then (some ((-2 : Int32), M15)) else (ea_ci (fX8_latestLook 30 x1 x2 x3 M15) (fun r18 M19 => ea_ci (fX8_lookShade 30 r18 x4 M19) (fun r21 M22 => some (r21, M22)))))))))))
def fX10_shows (x1 : Int32) (x2 : Int32) (x3 : Int32) (x4 : Int32) (M : eM) : Option (Int32 × eM) := fX10_shows_0 x1 x2 x3 x4 M
section SX10_shows
variable {p : Program} {l : Launch} {e : Env} {s : State} {m : MethodId} {args : Array Value} {below : List Frame} {meth : Method} {cd : Code} {E : eE} {ids : List Nat} {res : Int32 × eM}
set_option maxHeartbeats 4000000 in
set_option maxRecDepth 20000 in
theorem wX10_shows_0 (C : ea_C p s m args meth cd cX10_shows 5 (some .int) RX10) (hX : ea_X ids) : ∀ (x1 : Int32) (x2 : Int32) (x3 : Int32) (x4 : Int32) (M : eM) (H : Heap) (locs : List Loc) (ls : Array Slot), fX10_shows_0 x1 x2 x3 x4 M = some res → ea_w E ids M s H locs → lv_has ls 5 [(0, .ref (E.1 0)), (1, .int x1), (2, .int x2), (3, .int x3), (4, .int x4)] → W p l e (ea_rm 2 43) s m args below meth cd H locs 0 0 (MQ below (ea_Qi E ids res) args s 0 0 (ea_Ad E ids)) (F0 m 0 ls []) := by
  intro x1 x2 x3 x4 M H locs ls hf  hw hl
  replace hf := (fX10_shows_0.eq_1 ..).symm.trans hf
  refine lv_aload_n C.1 C.2.1 dX10_shows_0 rfl (lv_at hl 0 rfl) ?_
  refine lv_iload_n C.1 C.2.1 dX10_shows_1 rfl (lv_at hl 1 rfl) ?_
  obtain ⟨r2, M3, he1, hf⟩ := ea_ci_s hf
  refine ea_runi2 hw (cl_X10_196 C hw (hX 0 10 rfl) (As := [.int x1]) (rest := []) (mX10_isCell (l := l) (E := E) (ids := ids) hX he1) (by decide) rfl hl.1 rfl (Nat.le_of_ble_eq_true rfl) dX10_shows_2 ⟨Nat.le_refl _, Nat.le_refl _⟩) (fun H locs hw => ?_)
  refine lv_if_eq (tgt := 30) C.1 C.2.1 dX10_shows_5 (by decide) (fun hc4 => ?_) (fun hc4 => ?_)
  · replace hf := ea_if_t hc4 hf
    refine lv_bipush (v := (-2 : Int32)) C.1 C.2.1 dX10_shows_30 (by decide) ?_
    exact ea_iret C hw hf dX10_shows_32
  · replace hf := ea_if_f hc4 hf
    refine lv_iload_n C.1 C.2.1 dX10_shows_8 rfl (lv_at hl 2 rfl) ?_
    obtain ⟨r6, M7, he5, hf⟩ := ea_ci_s hf
    refine ea_runi2 hw (cl_X10_170 C hw (As := [.int x2]) (rest := []) (mX10_isSide (l := l) (E := E) (ids := ids) hX he5) (by decide) rfl hl.1 rfl (Nat.le_of_ble_eq_true rfl) dX10_shows_9 ⟨Nat.le_refl _, Nat.le_refl _⟩) (fun H locs hw => ?_)
    refine lv_if_eq (tgt := 30) C.1 C.2.1 dX10_shows_12 (by decide) (fun hc8 => ?_) (fun hc8 => ?_)
    · replace hf := ea_if_t hc8 hf
      refine lv_bipush (v := (-2 : Int32)) C.1 C.2.1 dX10_shows_30 (by decide) ?_
      exact ea_iret C hw hf dX10_shows_32
    · replace hf := ea_if_f hc8 hf
      refine lv_iload_n C.1 C.2.1 dX10_shows_15 rfl (lv_at hl 3 rfl) ?_
      obtain ⟨r10, M11, he9, hf⟩ := ea_ci_s hf
      refine ea_runi2 hw (cl_X10_225 C hw (As := [.int x3]) (rest := []) (mX10_isStep (l := l) (E := E) (ids := ids) hX he9) (by decide) rfl hl.1 rfl (Nat.le_of_ble_eq_true rfl) dX10_shows_16 ⟨Nat.le_refl _, Nat.le_refl _⟩) (fun H locs hw => ?_)
      refine lv_if_eq (tgt := 30) C.1 C.2.1 dX10_shows_19 (by decide) (fun hc12 => ?_) (fun hc12 => ?_)
      · replace hf := ea_if_t hc12 hf
        refine lv_bipush (v := (-2 : Int32)) C.1 C.2.1 dX10_shows_30 (by decide) ?_
        exact ea_iret C hw hf dX10_shows_32
      · replace hf := ea_if_f hc12 hf
        refine lv_iload C.1 C.2.1 dX10_shows_22 (lv_at hl 4 rfl) ?_
        obtain ⟨r14, M15, he13, hf⟩ := ea_ci_s hf
        refine ea_runi2 hw (cl_X10_186 C hw (As := [.int x4]) (rest := []) (mX10_isColour (l := l) (E := E) (ids := ids) hX he13) (by decide) rfl hl.1 rfl (Nat.le_of_ble_eq_true rfl) dX10_shows_24 ⟨Nat.le_refl _, Nat.le_refl _⟩) (fun H locs hw => ?_)
        refine lv_if_ne (tgt := 33) C.1 C.2.1 dX10_shows_27 (by decide) (fun hc16 => ?_) (fun hc16 => ?_)
        · replace hf := ea_if_f hc16 hf
          refine lv_aload_n C.1 C.2.1 dX10_shows_33 rfl (lv_at hl 0 rfl) ?_
          refine gf_X10_44 C hw (hX 0 10 rfl) dX10_shows_34 ?_
          refine lv_aload_n C.1 C.2.1 dX10_shows_37 rfl (lv_at hl 0 rfl) ?_
          refine gf_X10_44 C hw (hX 0 10 rfl) dX10_shows_38 ?_
          refine lv_iload_n C.1 C.2.1 dX10_shows_41 rfl (lv_at hl 1 rfl) ?_
          refine lv_iload_n C.1 C.2.1 dX10_shows_42 rfl (lv_at hl 2 rfl) ?_
          refine lv_iload_n C.1 C.2.1 dX10_shows_43 rfl (lv_at hl 3 rfl) ?_
          obtain ⟨r18, M19, he17, hf⟩ := ea_ci_s hf
          refine ea_runi2 hw (cl_X10_228 C hw (hX 30 8 rfl) (As := [.int x1, .int x2, .int x3]) (rest := [.ref (E.1 30)]) (mX8_latestLook (l := l) (E := E) (ids := ids) hX (hX 30 8 rfl) he17) (by decide) rfl hl.1 rfl (Nat.le_of_ble_eq_true rfl) dX10_shows_44 ⟨Nat.le_refl _, Nat.le_refl _⟩) (fun H locs hw => ?_)
          refine lv_iload C.1 C.2.1 dX10_shows_47 (lv_at hl 4 rfl) ?_
          obtain ⟨r21, M22, he20, hf⟩ := ea_ci_s hf
          refine ea_runi2 hw (cl_X10_231 C hw (hX 30 8 rfl) (As := [.int r18, .int x4]) (rest := []) (mX8_lookShade (l := l) (E := E) (ids := ids) hX (hX 30 8 rfl) he20) (by decide) rfl hl.1 rfl (Nat.le_of_ble_eq_true rfl) dX10_shows_49 ⟨Nat.le_refl _, Nat.le_refl _⟩) (fun H locs hw => ?_)
          exact ea_iret C hw hf dX10_shows_52
        · replace hf := ea_if_t hc16 hf
          refine lv_bipush (v := (-2 : Int32)) C.1 C.2.1 dX10_shows_30 (by decide) ?_
          exact ea_iret C hw hf dX10_shows_32
set_option maxHeartbeats 4000000 in
set_option maxRecDepth 20000 in
theorem mX10_shows {l : Launch} {E : eE} {ids : List Nat} (hX : ea_X ids) {x1 : Int32} {x2 : Int32} {x3 : Int32} {x4 : Int32} {M : eM} {res : Int32 × eM} (hf : fX10_shows x1 x2 x3 x4 M = some res) : ea_Mi l yX10_shows cX10_shows 5 (some .int) 2 43 E ids [.ref (E.1 0), .int x1, .int x2, .int x3, .int x4] M res := by
  refine ea_goi (by decide) (Nat.le_of_ble_eq_true rfl) wc_X10_shows ?_
  intro p e s m below meth cd ls C hw hl
  exact wX10_shows_0 C hX _ _ _ _ _ _ _ _ hf hw hl
end SX10_shows

def fX10_stories_43 (k14 : Int32 → Int32 → Int32 → eM → Option (Int32 × eM)) (x1 : Int32) (x2 : Int32) (x3 : Int32) (M : eM) : Option (Int32 × eM) := k14 x1 x2 (x3 + (1 : Int32)) M
def fX10_stories_14 : Nat → Int32 → Int32 → Int32 → eM → Option (Int32 × eM)
  | 0, _, _, _, _ => none
  | n + 1, x1, x2, x3, M => ea_ck (ea_is (M.2.2 4 0) 1) (if (M.1 (M.2.2 4 0) 11) ≤ x3 then (some (x2, M)) else (ea_ci (fX10_mayBe x3 x1 M) (fun r4 M5 => if r4 = 0 then (fX10_stories_43 (fX10_stories_14 n) x1 x2 x3 M5) else (ea_lt (x2 ||| ((1 : Int32) <<< (x3 &&& 31))) (fun y7 => fX10_stories_43 (fX10_stories_14 n) x1 y7 x3 M5)))))
def fX10_stories_0 (x1 : Int32) (M : eM) : Option (Int32 × eM) := ea_ci (fX10_isStep x1 M) (fun r2 M3 => if r2 = 0 then (some ((-2 : Int32), M3)) else (fX10_stories_14 ea_N x1 (0 : Int32) (0 : Int32) M3))
def fX10_stories (x1 : Int32) (M : eM) : Option (Int32 × eM) := fX10_stories_0 x1 M
section SX10_stories
variable {p : Program} {l : Launch} {e : Env} {s : State} {m : MethodId} {args : Array Value} {below : List Frame} {meth : Method} {cd : Code} {E : eE} {ids : List Nat} {res : Int32 × eM}
set_option maxHeartbeats 4000000 in
set_option maxRecDepth 20000 in
theorem wX10_stories_43 (C : ea_C p s m args meth cd cX10_stories 4 (some .int) RX10) (hX : ea_X ids) {k14 : Int32 → Int32 → Int32 → eM → Option (Int32 × eM)} (hk14 : ∀ (x1 : Int32) (x2 : Int32) (x3 : Int32) (M : eM) (H : Heap) (locs : List Loc) (ls : Array Slot), k14 x1 x2 x3 M = some res → ea_w E ids M s H locs → lv_has ls 4 [(0, .ref (E.1 0)), (1, .int x1), (2, .int x2), (3, .int x3)] → W p l e (ea_rm 5 126) s m args below meth cd H locs 0 0 (MQ below (ea_Qi E ids res) args s 0 0 (ea_Ad E ids)) (F0 m 14 ls [])) : ∀ (x1 : Int32) (x2 : Int32) (x3 : Int32) (M : eM) (H : Heap) (locs : List Loc) (ls : Array Slot), fX10_stories_43 k14 x1 x2 x3 M = some res → ea_w E ids M s H locs → lv_has ls 4 [(0, .ref (E.1 0)), (1, .int x1), (2, .int x2), (3, .int x3)] → W p l e (ea_rm 5 126) s m args below meth cd H locs 0 0 (MQ below (ea_Qi E ids res) args s 0 0 (ea_Ad E ids)) (F0 m 43 ls []) := by
  intro x1 x2 x3 M H locs ls hf  hw hl
  replace hf := (fX10_stories_43.eq_1 ..).symm.trans hf
  refine lv_iinc (v := x3 + (1 : Int32)) (lv' := [(3, .int (x3 + (1 : Int32))), (0, .ref (E.1 0)), (1, .int x1), (2, .int x2)]) C.1 C.2.1 dX10_stories_43 hl (k := 3) rfl rfl (by decide) rfl (fun ls hl => ?_)
  refine lv_goto (tgt := 14) C.1 C.2.1 dX10_stories_46 (by decide) ?_
  exact hk14 _ _ _ _ _ _ _ hf hw (lv_sub hl [1, 2, 3, 0] rfl)
set_option maxHeartbeats 4000000 in
set_option maxRecDepth 20000 in
theorem wX10_stories_14 (C : ea_C p s m args meth cd cX10_stories 4 (some .int) RX10) (hX : ea_X ids) : ∀ (n : Nat) (x1 : Int32) (x2 : Int32) (x3 : Int32) (M : eM) (H : Heap) (locs : List Loc) (ls : Array Slot), fX10_stories_14 n x1 x2 x3 M = some res → ea_w E ids M s H locs → lv_has ls 4 [(0, .ref (E.1 0)), (1, .int x1), (2, .int x2), (3, .int x3)] → W p l e (ea_rm 5 126) s m args below meth cd H locs 0 0 (MQ below (ea_Qi E ids res) args s 0 0 (ea_Ad E ids)) (F0 m 14 ls []) := by
  intro n
  induction n with
  | zero => intro x1 x2 x3 M H locs ls hf; cases hf
  | succ n ih =>
    intro x1 x2 x3 M H locs ls hf  hw hl
    replace hf := (fX10_stories_14.eq_2 ..).symm.trans hf
    refine lv_iload_n C.1 C.2.1 dX10_stories_14 rfl (lv_at hl 3 rfl) ?_
    refine lv_aload_n C.1 C.2.1 dX10_stories_15 rfl (lv_at hl 0 rfl) ?_
    refine gf_X10_24 C hw (hX 0 10 rfl) dX10_stories_16 ?_
    refine gf_X10_110 C hw (hX 4 9 rfl) dX10_stories_19 ?_
    obtain ⟨hc1, hf⟩ := ea_ck_s hf
    refine gf_X10_146 C hw (ea_dyn hX hc1) dX10_stories_22 ?_
    refine lv_icmp_ge (tgt := 49) C.1 C.2.1 dX10_stories_25 (by decide) (fun hc2 => ?_) (fun hc2 => ?_)
    · replace hf := ea_if_t hc2 hf
      refine lv_iload_n C.1 C.2.1 dX10_stories_49 rfl (lv_at hl 2 rfl) ?_
      exact ea_iret C hw hf dX10_stories_50
    · replace hf := ea_if_f hc2 hf
      refine lv_aload_n C.1 C.2.1 dX10_stories_28 rfl (lv_at hl 0 rfl) ?_
      refine lv_iload_n C.1 C.2.1 dX10_stories_29 rfl (lv_at hl 3 rfl) ?_
      refine lv_iload_n C.1 C.2.1 dX10_stories_30 rfl (lv_at hl 1 rfl) ?_
      obtain ⟨r4, M5, he3, hf⟩ := ea_ci_s hf
      refine ea_runi2 hw (cl_X10_285 C hw (hX 0 10 rfl) (As := [.int x3, .int x1]) (rest := []) (mX10_mayBe (l := l) (E := E) (ids := ids) hX he3) (by decide) rfl hl.1 rfl (Nat.le_of_ble_eq_true rfl) dX10_stories_31 ⟨Nat.le_refl _, Nat.le_refl _⟩) (fun H locs hw => ?_)
      refine lv_if_eq (tgt := 43) C.1 C.2.1 dX10_stories_34 (by decide) (fun hc6 => ?_) (fun hc6 => ?_)
      · replace hf := ea_if_t hc6 hf
        exact wX10_stories_43 C hX ih _ _ _ _ _ _ _ hf hw (lv_sub hl [0, 1, 2, 3] rfl)
      · replace hf := ea_if_f hc6 hf
        refine lv_iload_n C.1 C.2.1 dX10_stories_37 rfl (lv_at hl 2 rfl) ?_
        refine lv_iconst (v := 1) C.1 C.2.1 dX10_stories_38 (by decide) ?_
        refine lv_iload_n C.1 C.2.1 dX10_stories_39 rfl (lv_at hl 3 rfl) ?_
        refine lv_ishl C.1 C.2.1 dX10_stories_40 ?_
        refine lv_ior C.1 C.2.1 dX10_stories_41 ?_
        obtain ⟨y7, ey8, hf⟩ := ea_lt_s hf
        refine ea_topi ey8 ?_
        refine lv_istore_n (lv' := [(2, .int y7), (0, .ref (E.1 0)), (1, .int x1), (3, .int x3)]) C.1 C.2.1 dX10_stories_42 rfl hl (by decide) rfl (fun ls hl => ?_)
        exact wX10_stories_43 C hX ih _ _ _ _ _ _ _ hf hw (lv_sub hl [1, 2, 0, 3] rfl)
set_option maxHeartbeats 4000000 in
set_option maxRecDepth 20000 in
theorem wX10_stories_0 (C : ea_C p s m args meth cd cX10_stories 4 (some .int) RX10) (hX : ea_X ids) : ∀ (x1 : Int32) (M : eM) (H : Heap) (locs : List Loc) (ls : Array Slot), fX10_stories_0 x1 M = some res → ea_w E ids M s H locs → lv_has ls 4 [(0, .ref (E.1 0)), (1, .int x1)] → W p l e (ea_rm 5 126) s m args below meth cd H locs 0 0 (MQ below (ea_Qi E ids res) args s 0 0 (ea_Ad E ids)) (F0 m 0 ls []) := by
  intro x1 M H locs ls hf  hw hl
  replace hf := (fX10_stories_0.eq_1 ..).symm.trans hf
  refine lv_iload_n C.1 C.2.1 dX10_stories_0 rfl (lv_at hl 1 rfl) ?_
  obtain ⟨r2, M3, he1, hf⟩ := ea_ci_s hf
  refine ea_runi2 hw (cl_X10_225 C hw (As := [.int x1]) (rest := []) (mX10_isStep (l := l) (E := E) (ids := ids) hX he1) (by decide) rfl hl.1 rfl (Nat.le_of_ble_eq_true rfl) dX10_stories_1 ⟨Nat.le_refl _, Nat.le_refl _⟩) (fun H locs hw => ?_)
  refine lv_if_ne (tgt := 10) C.1 C.2.1 dX10_stories_4 (by decide) (fun hc4 => ?_) (fun hc4 => ?_)
  · replace hf := ea_if_f hc4 hf
    refine lv_iconst (v := 0) C.1 C.2.1 dX10_stories_10 (by decide) ?_
    refine lv_istore_n (lv' := [(2, .int (0 : Int32)), (0, .ref (E.1 0)), (1, .int x1)]) C.1 C.2.1 dX10_stories_11 rfl hl (by decide) rfl (fun ls hl => ?_)
    refine lv_iconst (v := 0) C.1 C.2.1 dX10_stories_12 (by decide) ?_
    refine lv_istore_n (lv' := [(3, .int (0 : Int32)), (2, .int (0 : Int32)), (0, .ref (E.1 0)), (1, .int x1)]) C.1 C.2.1 dX10_stories_13 rfl hl (by decide) rfl (fun ls hl => ?_)
    exact wX10_stories_14 C hX ea_N _ _ _ _ _ _ _ hf hw (lv_sub hl [2, 3, 1, 0] rfl)
  · replace hf := ea_if_t hc4 hf
    refine lv_bipush (v := (-2 : Int32)) C.1 C.2.1 dX10_stories_7 (by decide) ?_
    exact ea_iret C hw hf dX10_stories_9
set_option maxHeartbeats 4000000 in
set_option maxRecDepth 20000 in
theorem mX10_stories {l : Launch} {E : eE} {ids : List Nat} (hX : ea_X ids) {x1 : Int32} {M : eM} {res : Int32 × eM} (hf : fX10_stories x1 M = some res) : ea_Mi l yX10_stories cX10_stories 4 (some .int) 5 126 E ids [.ref (E.1 0), .int x1] M res := by
  refine ea_goi (by decide) (Nat.le_of_ble_eq_true rfl) wc_X10_stories ?_
  intro p e s m below meth cd ls C hw hl
  exact wX10_stories_0 C hX _ _ _ _ _ hf hw hl
end SX10_stories

def fX10_strength_0 (x1 : Int32) (x2 : Int32) (M : eM) : Option (Int32 × eM) := ea_ck (ea_is (M.2.2 4 0) 1) (ea_ci (fX10_isWithin x1 (0 : Int32) ((M.1 (M.2.2 4 0) 8) - (1 : Int32)) M) (fun r3 M4 => if r3 = 0 then (some ((-2 : Int32), M4)) else (ea_ci (fX10_isWithin x2 (0 : Int32) (999999 : Int32) M4) (fun r7 M8 => if r7 = 0 then (some ((-2 : Int32), M8)) else (ea_ck (ea_is (M8.2.2 4 0) 1) (ea_ci (fX1_strengthOf (M8.2.2 4 0) x1 x2 M8) (fun r12 M13 => some (r12, M13))))))))
def fX10_strength (x1 : Int32) (x2 : Int32) (M : eM) : Option (Int32 × eM) := fX10_strength_0 x1 x2 M
section SX10_strength
variable {p : Program} {l : Launch} {e : Env} {s : State} {m : MethodId} {args : Array Value} {below : List Frame} {meth : Method} {cd : Code} {E : eE} {ids : List Nat} {res : Int32 × eM}
set_option maxHeartbeats 4000000 in
set_option maxRecDepth 20000 in
theorem wX10_strength_0 (C : ea_C p s m args meth cd cX10_strength 3 (some .int) RX10) (hX : ea_X ids) : ∀ (x1 : Int32) (x2 : Int32) (M : eM) (H : Heap) (locs : List Loc) (ls : Array Slot), fX10_strength_0 x1 x2 M = some res → ea_w E ids M s H locs → lv_has ls 3 [(0, .ref (E.1 0)), (1, .int x1), (2, .int x2)] → W p l e (ea_rm 2 47) s m args below meth cd H locs 0 0 (MQ below (ea_Qi E ids res) args s 0 0 (ea_Ad E ids)) (F0 m 0 ls []) := by
  intro x1 x2 M H locs ls hf  hw hl
  replace hf := (fX10_strength_0.eq_1 ..).symm.trans hf
  refine lv_iload_n C.1 C.2.1 dX10_strength_0 rfl (lv_at hl 1 rfl) ?_
  refine lv_iconst (v := 0) C.1 C.2.1 dX10_strength_1 (by decide) ?_
  refine lv_aload_n C.1 C.2.1 dX10_strength_2 rfl (lv_at hl 0 rfl) ?_
  refine gf_X10_24 C hw (hX 0 10 rfl) dX10_strength_3 ?_
  refine gf_X10_110 C hw (hX 4 9 rfl) dX10_strength_6 ?_
  obtain ⟨hc1, hf⟩ := ea_ck_s hf
  refine gf_X10_155 C hw (ea_dyn hX hc1) dX10_strength_9 ?_
  refine lv_iconst (v := 1) C.1 C.2.1 dX10_strength_12 (by decide) ?_
  refine lv_isub C.1 C.2.1 dX10_strength_13 ?_
  obtain ⟨r3, M4, he2, hf⟩ := ea_ci_s hf
  refine ea_runi2 hw (cl_X10_133 C hw (As := [.int x1, .int (0 : Int32), .int ((M.1 (M.2.2 4 0) 8) - (1 : Int32))]) (rest := []) (mX10_isWithin (l := l) (E := E) (ids := ids) hX he2) (by decide) rfl hl.1 rfl (Nat.le_of_ble_eq_true rfl) dX10_strength_14 ⟨Nat.le_refl _, Nat.le_refl _⟩) (fun H locs hw => ?_)
  refine lv_if_eq (tgt := 30) C.1 C.2.1 dX10_strength_17 (by decide) (fun hc5 => ?_) (fun hc5 => ?_)
  · replace hf := ea_if_t hc5 hf
    refine lv_bipush (v := (-2 : Int32)) C.1 C.2.1 dX10_strength_30 (by decide) ?_
    exact ea_iret C hw hf dX10_strength_32
  · replace hf := ea_if_f hc5 hf
    refine lv_iload_n C.1 C.2.1 dX10_strength_20 rfl (lv_at hl 2 rfl) ?_
    refine lv_iconst (v := 0) C.1 C.2.1 dX10_strength_21 (by decide) ?_
    refine lv_ldc (v := (999999 : Int32)) C.1 C.2.1 C.2.2.2.1 (C.2.2.2.2.1 _ wk_RX10_158) dX10_strength_22 ?_
    obtain ⟨r7, M8, he6, hf⟩ := ea_ci_s hf
    refine ea_runi2 hw (cl_X10_133 C hw (As := [.int x2, .int (0 : Int32), .int (999999 : Int32)]) (rest := []) (mX10_isWithin (l := l) (E := E) (ids := ids) hX he6) (by decide) rfl hl.1 rfl (Nat.le_of_ble_eq_true rfl) dX10_strength_24 ⟨Nat.le_refl _, Nat.le_refl _⟩) (fun H locs hw => ?_)
    refine lv_if_ne (tgt := 33) C.1 C.2.1 dX10_strength_27 (by decide) (fun hc9 => ?_) (fun hc9 => ?_)
    · replace hf := ea_if_f hc9 hf
      refine lv_aload_n C.1 C.2.1 dX10_strength_33 rfl (lv_at hl 0 rfl) ?_
      refine gf_X10_24 C hw (hX 0 10 rfl) dX10_strength_34 ?_
      refine gf_X10_110 C hw (hX 4 9 rfl) dX10_strength_37 ?_
      obtain ⟨hc10, hf⟩ := ea_ck_s hf
      refine lv_iload_n C.1 C.2.1 dX10_strength_40 rfl (lv_at hl 1 rfl) ?_
      refine lv_iload_n C.1 C.2.1 dX10_strength_41 rfl (lv_at hl 2 rfl) ?_
      obtain ⟨r12, M13, he11, hf⟩ := ea_ci_s hf
      refine ea_runi2 hw (cl_X10_159 C hw (ea_dyn hX hc10) (As := [.int x1, .int x2]) (rest := []) (mX1_strengthOf (l := l) (E := E) (ids := ids) hX (ea_dyn hX hc10) he11) (by decide) rfl hl.1 rfl (Nat.le_of_ble_eq_true rfl) dX10_strength_42 ⟨Nat.le_refl _, Nat.le_refl _⟩) (fun H locs hw => ?_)
      exact ea_iret C hw hf dX10_strength_45
    · replace hf := ea_if_t hc9 hf
      refine lv_bipush (v := (-2 : Int32)) C.1 C.2.1 dX10_strength_30 (by decide) ?_
      exact ea_iret C hw hf dX10_strength_32
set_option maxHeartbeats 4000000 in
set_option maxRecDepth 20000 in
theorem mX10_strength {l : Launch} {E : eE} {ids : List Nat} (hX : ea_X ids) {x1 : Int32} {x2 : Int32} {M : eM} {res : Int32 × eM} (hf : fX10_strength x1 x2 M = some res) : ea_Mi l yX10_strength cX10_strength 3 (some .int) 2 47 E ids [.ref (E.1 0), .int x1, .int x2] M res := by
  refine ea_goi (by decide) (Nat.le_of_ble_eq_true rfl) wc_X10_strength ?_
  intro p e s m below meth cd ls C hw hl
  exact wX10_strength_0 C hX _ _ _ _ _ _ hf hw hl
end SX10_strength

def fX10_take_0 (x1 : Int32) (M : eM) : Option (Int32 × eM) := ea_ci (fX10_isWithin x1 (0 : Int32) ((nI (ea_len 46)) - (1 : Int32)) M) (fun r2 M3 => if r2 = 0 then (some ((-2 : Int32), M3)) else (ea_ck (ea_ix x1 (ea_len 46)) (if (M3.1 (34 + 4 * x1.toNatClampNeg) 7) = 0 then (some ((-4 : Int32), M3)) else (ea_ck (ea_ix x1 (ea_len 46)) (ea_cv (fX8_copyFrom 30 (34 + 4 * x1.toNatClampNeg) M3) (fun M9 => some (M9.1 30 3, M9)))))))
def fX10_take (x1 : Int32) (M : eM) : Option (Int32 × eM) := fX10_take_0 x1 M
section SX10_take
variable {p : Program} {l : Launch} {e : Env} {s : State} {m : MethodId} {args : Array Value} {below : List Frame} {meth : Method} {cd : Code} {E : eE} {ids : List Nat} {res : Int32 × eM}
set_option maxHeartbeats 4000000 in
set_option maxRecDepth 20000 in
theorem wX10_take_0 (C : ea_C p s m args meth cd cX10_take 2 (some .int) RX10) (hX : ea_X ids) : ∀ (x1 : Int32) (M : eM) (H : Heap) (locs : List Loc) (ls : Array Slot), fX10_take_0 x1 M = some res → ea_w E ids M s H locs → lv_has ls 2 [(0, .ref (E.1 0)), (1, .int x1)] → W p l e (ea_rm 2 61) s m args below meth cd H locs 0 0 (MQ below (ea_Qi E ids res) args s 0 0 (ea_Ad E ids)) (F0 m 0 ls []) := by
  intro x1 M H locs ls hf  hw hl
  replace hf := (fX10_take_0.eq_1 ..).symm.trans hf
  refine lv_iload_n C.1 C.2.1 dX10_take_0 rfl (lv_at hl 1 rfl) ?_
  refine lv_iconst (v := 0) C.1 C.2.1 dX10_take_1 (by decide) ?_
  refine lv_aload_n C.1 C.2.1 dX10_take_2 rfl (lv_at hl 0 rfl) ?_
  refine gf_X10_48 C hw (hX 0 10 rfl) dX10_take_3 ?_
  refine ea_alen C hw (hX 46 24 rfl) (by decide) dX10_take_6 ?_
  refine lv_iconst (v := 1) C.1 C.2.1 dX10_take_7 (by decide) ?_
  refine lv_isub C.1 C.2.1 dX10_take_8 ?_
  obtain ⟨r2, M3, he1, hf⟩ := ea_ci_s hf
  refine ea_runi2 hw (cl_X10_133 C hw (As := [.int x1, .int (0 : Int32), .int ((nI (ea_len 46)) - (1 : Int32))]) (rest := []) (mX10_isWithin (l := l) (E := E) (ids := ids) hX he1) (by decide) rfl hl.1 rfl (Nat.le_of_ble_eq_true rfl) dX10_take_9 ⟨Nat.le_refl _, Nat.le_refl _⟩) (fun H locs hw => ?_)
  refine lv_if_ne (tgt := 18) C.1 C.2.1 dX10_take_12 (by decide) (fun hc4 => ?_) (fun hc4 => ?_)
  · replace hf := ea_if_f hc4 hf
    refine lv_aload_n C.1 C.2.1 dX10_take_18 rfl (lv_at hl 0 rfl) ?_
    refine gf_X10_48 C hw (hX 0 10 rfl) dX10_take_19 ?_
    refine lv_iload_n C.1 C.2.1 dX10_take_22 rfl (lv_at hl 1 rfl) ?_
    obtain ⟨hc5, hf⟩ := ea_ck_s hf
    refine ea_aald C hw (hX 46 24 rfl) hc5 dX10_take_23 ?_
    refine gf_X10_119 C hw (ok_slot hX (ea_ixs hc5)) dX10_take_24 ?_
    refine lv_if_ne (tgt := 33) C.1 C.2.1 dX10_take_27 (by decide) (fun hc6 => ?_) (fun hc6 => ?_)
    · replace hf := ea_if_f hc6 hf
      refine lv_aload_n C.1 C.2.1 dX10_take_33 rfl (lv_at hl 0 rfl) ?_
      refine gf_X10_44 C hw (hX 0 10 rfl) dX10_take_34 ?_
      refine lv_aload_n C.1 C.2.1 dX10_take_37 rfl (lv_at hl 0 rfl) ?_
      refine gf_X10_48 C hw (hX 0 10 rfl) dX10_take_38 ?_
      refine lv_iload_n C.1 C.2.1 dX10_take_41 rfl (lv_at hl 1 rfl) ?_
      obtain ⟨hc7, hf⟩ := ea_ck_s hf
      refine ea_aald C hw (hX 46 24 rfl) hc7 dX10_take_42 ?_
      obtain ⟨M9, he8, hf⟩ := ea_cv_s hf
      refine ea_runv hw (cl_X10_234 C hw (hX 30 8 rfl) (As := [.ref (E.1 (34 + 4 * x1.toNatClampNeg))]) (rest := []) (mX8_copyFrom (l := l) (E := E) (ids := ids) hX (hX 30 8 rfl) (ok_slot hX (ea_ixs hc7)) he8) (by decide) rfl hl.1 rfl (Nat.le_of_ble_eq_true rfl) dX10_take_43 ⟨Nat.le_refl _, Nat.le_refl _⟩) (fun H locs hw => ?_)
      refine lv_aload_n C.1 C.2.1 dX10_take_46 rfl (lv_at hl 0 rfl) ?_
      refine gf_X10_44 C hw (hX 0 10 rfl) dX10_take_47 ?_
      refine gf_X10_202 C hw (hX 30 8 rfl) dX10_take_50 ?_
      exact ea_iret C hw hf dX10_take_53
    · replace hf := ea_if_t hc6 hf
      refine lv_bipush (v := (-4 : Int32)) C.1 C.2.1 dX10_take_30 (by decide) ?_
      exact ea_iret C hw hf dX10_take_32
  · replace hf := ea_if_t hc4 hf
    refine lv_bipush (v := (-2 : Int32)) C.1 C.2.1 dX10_take_15 (by decide) ?_
    exact ea_iret C hw hf dX10_take_17
set_option maxHeartbeats 4000000 in
set_option maxRecDepth 20000 in
theorem mX10_take {l : Launch} {E : eE} {ids : List Nat} (hX : ea_X ids) {x1 : Int32} {M : eM} {res : Int32 × eM} (hf : fX10_take x1 M = some res) : ea_Mi l yX10_take cX10_take 2 (some .int) 2 61 E ids [.ref (E.1 0), .int x1] M res := by
  refine ea_goi (by decide) (Nat.le_of_ble_eq_true rfl) wc_X10_take ?_
  intro p e s m below meth cd ls C hw hl
  exact wX10_take_0 C hX _ _ _ _ _ hf hw hl
end SX10_take

def fX10_tellSide_0 (x1 : Int32) (x2 : Int32) (x3 : Int32) (x4 : Int32) (x5 : Int32) (x6 : Int32) (M : eM) : Option (eM) := if (90 : Int32) ≤ (M.1 30 3) then (some M) else (ea_ci (fX10_isThread x4 M) (fun r3 M4 => if r3 = 0 then (some M4) else (ea_ck (ea_is (M4.2.2 4 0) 1) (ea_ck (ea_is (M4.2.2 4 0) 1) (ea_ci (fX1_columnOf (M4.2.2 4 0) x2 M4) (fun r9 M10 => ea_ci (fX1_hoursOf (M4.2.2 4 0) x5 r9 x6 x3 M10) (fun r12 M13 => ea_ci (fX9_shadeOf x4 r12 (0 : Int32) M13) (fun r15 M16 => ea_ci (fX9_shadeOf x4 r12 (1 : Int32) M16) (fun r18 M19 => ea_ci (fX9_shadeOf x4 r12 (2 : Int32) M19) (fun r21 M22 => ea_cv (fX8_addLook 30 x1 x2 x3 r15 r18 r21 M22) (fun M24 => some M24)))))))))))
def fX10_tellSide (x1 : Int32) (x2 : Int32) (x3 : Int32) (x4 : Int32) (x5 : Int32) (x6 : Int32) (M : eM) : Option (eM) := fX10_tellSide_0 x1 x2 x3 x4 x5 x6 M
section SX10_tellSide
variable {p : Program} {l : Launch} {e : Env} {s : State} {m : MethodId} {args : Array Value} {below : List Frame} {meth : Method} {cd : Code} {E : eE} {ids : List Nat} {res : eM}
set_option maxHeartbeats 4000000 in
set_option maxRecDepth 20000 in
theorem wX10_tellSide_0 (C : ea_C p s m args meth cd cX10_tellSide 8 none RX10) (hX : ea_X ids) : ∀ (x1 : Int32) (x2 : Int32) (x3 : Int32) (x4 : Int32) (x5 : Int32) (x6 : Int32) (M : eM) (H : Heap) (locs : List Loc) (ls : Array Slot), fX10_tellSide_0 x1 x2 x3 x4 x5 x6 M = some res → ea_w E ids M s H locs → lv_has ls 8 [(0, .ref (E.1 0)), (1, .int x1), (2, .int x2), (3, .int x3), (4, .int x4), (5, .int x5), (6, .int x6)] → W p l e (ea_rm 4 94) s m args below meth cd H locs 0 0 (MQ below (ea_Qv E ids res) args s 0 0 (ea_Ad E ids)) (F0 m 0 ls []) := by
  intro x1 x2 x3 x4 x5 x6 M H locs ls hf  hw hl
  replace hf := (fX10_tellSide_0.eq_1 ..).symm.trans hf
  refine lv_aload_n C.1 C.2.1 dX10_tellSide_0 rfl (lv_at hl 0 rfl) ?_
  refine gf_X10_44 C hw (hX 0 10 rfl) dX10_tellSide_1 ?_
  refine gf_X10_202 C hw (hX 30 8 rfl) dX10_tellSide_4 ?_
  refine lv_bipush (v := 90) C.1 C.2.1 dX10_tellSide_7 (by decide) ?_
  refine lv_icmp_ge (tgt := 21) C.1 C.2.1 dX10_tellSide_9 (by decide) (fun hc1 => ?_) (fun hc1 => ?_)
  · replace hf := ea_if_t hc1 hf
    exact ea_vret C hw hf dX10_tellSide_21
  · replace hf := ea_if_f hc1 hf
    refine lv_aload_n C.1 C.2.1 dX10_tellSide_12 rfl (lv_at hl 0 rfl) ?_
    refine lv_iload C.1 C.2.1 dX10_tellSide_13 (lv_at hl 4 rfl) ?_
    obtain ⟨r3, M4, he2, hf⟩ := ea_ci_s hf
    refine ea_runi2 hw (cl_X10_183 C hw (hX 0 10 rfl) (As := [.int x4]) (rest := []) (mX10_isThread (l := l) (E := E) (ids := ids) hX he2) (by decide) rfl hl.1 rfl (Nat.le_of_ble_eq_true rfl) dX10_tellSide_15 ⟨Nat.le_refl _, Nat.le_refl _⟩) (fun H locs hw => ?_)
    refine lv_if_ne (tgt := 22) C.1 C.2.1 dX10_tellSide_18 (by decide) (fun hc5 => ?_) (fun hc5 => ?_)
    · replace hf := ea_if_f hc5 hf
      refine lv_aload_n C.1 C.2.1 dX10_tellSide_22 rfl (lv_at hl 0 rfl) ?_
      refine gf_X10_24 C hw (hX 0 10 rfl) dX10_tellSide_23 ?_
      refine gf_X10_110 C hw (hX 4 9 rfl) dX10_tellSide_26 ?_
      obtain ⟨hc6, hf⟩ := ea_ck_s hf
      refine lv_iload C.1 C.2.1 dX10_tellSide_29 (lv_at hl 5 rfl) ?_
      refine lv_aload_n C.1 C.2.1 dX10_tellSide_31 rfl (lv_at hl 0 rfl) ?_
      refine gf_X10_24 C hw (hX 0 10 rfl) dX10_tellSide_32 ?_
      refine gf_X10_110 C hw (hX 4 9 rfl) dX10_tellSide_35 ?_
      obtain ⟨hc7, hf⟩ := ea_ck_s hf
      refine lv_iload_n C.1 C.2.1 dX10_tellSide_38 rfl (lv_at hl 2 rfl) ?_
      obtain ⟨r9, M10, he8, hf⟩ := ea_ci_s hf
      refine ea_runi2 hw (cl_X10_309 C hw (ea_dyn hX hc7) (As := [.int x2]) (rest := [.int x5, .ref (E.1 (M4.2.2 4 0))]) (mX1_columnOf (l := l) (E := E) (ids := ids) hX (ea_dyn hX hc7) he8) (by decide) rfl hl.1 rfl (Nat.le_of_ble_eq_true rfl) dX10_tellSide_39 ⟨Nat.le_refl _, Nat.le_refl _⟩) (fun H locs hw => ?_)
      refine lv_iload C.1 C.2.1 dX10_tellSide_42 (lv_at hl 6 rfl) ?_
      refine lv_iload_n C.1 C.2.1 dX10_tellSide_44 rfl (lv_at hl 3 rfl) ?_
      obtain ⟨r12, M13, he11, hf⟩ := ea_ci_s hf
      refine ea_runi2 hw (cl_X10_173 C hw (ea_dyn hX hc6) (As := [.int x5, .int r9, .int x6, .int x3]) (rest := []) (mX1_hoursOf (l := l) (E := E) (ids := ids) hX (ea_dyn hX hc6) he11) (by decide) rfl hl.1 rfl (Nat.le_of_ble_eq_true rfl) dX10_tellSide_45 ⟨Nat.le_refl _, Nat.le_refl _⟩) (fun H locs hw => ?_)
      refine lv_istore (lv' := [(7, .int r12), (0, .ref (E.1 0)), (1, .int x1), (2, .int x2), (3, .int x3), (4, .int x4), (5, .int x5), (6, .int x6)]) C.1 C.2.1 dX10_tellSide_48 hl (by decide) rfl (fun ls hl => ?_)
      refine lv_aload_n C.1 C.2.1 dX10_tellSide_50 rfl (lv_at hl 1 rfl) ?_
      refine gf_X10_44 C hw (hX 0 10 rfl) dX10_tellSide_51 ?_
      refine lv_iload_n C.1 C.2.1 dX10_tellSide_54 rfl (lv_at hl 2 rfl) ?_
      refine lv_iload_n C.1 C.2.1 dX10_tellSide_55 rfl (lv_at hl 3 rfl) ?_
      refine lv_iload_n C.1 C.2.1 dX10_tellSide_56 rfl (lv_at hl 4 rfl) ?_
      refine lv_aload_n C.1 C.2.1 dX10_tellSide_57 rfl (lv_at hl 1 rfl) ?_
      refine gf_X10_24 C hw (hX 0 10 rfl) dX10_tellSide_58 ?_
      refine lv_iload C.1 C.2.1 dX10_tellSide_61 (lv_at hl 5 rfl) ?_
      refine lv_iload C.1 C.2.1 dX10_tellSide_63 (lv_at hl 0 rfl) ?_
      refine lv_iconst (v := 0) C.1 C.2.1 dX10_tellSide_65 (by decide) ?_
      obtain ⟨r15, M16, he14, hf⟩ := ea_ci_s hf
      refine ea_runi2 hw (cl_X10_189 C hw (hX 4 9 rfl) (As := [.int x4, .int r12, .int (0 : Int32)]) (rest := [.int x3, .int x2, .int x1, .ref (E.1 30)]) (mX9_shadeOf (l := l) (E := E) (ids := ids) hX he14) (by decide) rfl hl.1 rfl (Nat.le_of_ble_eq_true rfl) dX10_tellSide_66 ⟨Nat.le_refl _, Nat.le_refl _⟩) (fun H locs hw => ?_)
      refine lv_aload_n C.1 C.2.1 dX10_tellSide_69 rfl (lv_at hl 1 rfl) ?_
      refine gf_X10_24 C hw (hX 0 10 rfl) dX10_tellSide_70 ?_
      refine lv_iload C.1 C.2.1 dX10_tellSide_73 (lv_at hl 5 rfl) ?_
      refine lv_iload C.1 C.2.1 dX10_tellSide_75 (lv_at hl 0 rfl) ?_
      refine lv_iconst (v := 1) C.1 C.2.1 dX10_tellSide_77 (by decide) ?_
      obtain ⟨r18, M19, he17, hf⟩ := ea_ci_s hf
      refine ea_runi2 hw (cl_X10_189 C hw (hX 4 9 rfl) (As := [.int x4, .int r12, .int (1 : Int32)]) (rest := [.int r15, .int x3, .int x2, .int x1, .ref (E.1 30)]) (mX9_shadeOf (l := l) (E := E) (ids := ids) hX he17) (by decide) rfl hl.1 rfl (Nat.le_of_ble_eq_true rfl) dX10_tellSide_78 ⟨Nat.le_refl _, Nat.le_refl _⟩) (fun H locs hw => ?_)
      refine lv_aload_n C.1 C.2.1 dX10_tellSide_81 rfl (lv_at hl 1 rfl) ?_
      refine gf_X10_24 C hw (hX 0 10 rfl) dX10_tellSide_82 ?_
      refine lv_iload C.1 C.2.1 dX10_tellSide_85 (lv_at hl 5 rfl) ?_
      refine lv_iload C.1 C.2.1 dX10_tellSide_87 (lv_at hl 0 rfl) ?_
      refine lv_iconst (v := 2) C.1 C.2.1 dX10_tellSide_89 (by decide) ?_
      obtain ⟨r21, M22, he20, hf⟩ := ea_ci_s hf
      refine ea_runi2 hw (cl_X10_189 C hw (hX 4 9 rfl) (As := [.int x4, .int r12, .int (2 : Int32)]) (rest := [.int r18, .int r15, .int x3, .int x2, .int x1, .ref (E.1 30)]) (mX9_shadeOf (l := l) (E := E) (ids := ids) hX he20) (by decide) rfl hl.1 rfl (Nat.le_of_ble_eq_true rfl) dX10_tellSide_90 ⟨Nat.le_refl _, Nat.le_refl _⟩) (fun H locs hw => ?_)
      obtain ⟨M24, he23, hf⟩ := ea_cv_s hf
      refine ea_runv hw (cl_X10_205 C hw (hX 30 8 rfl) (As := [.int x1, .int x2, .int x3, .int r15, .int r18, .int r21]) (rest := []) (mX8_addLook (l := l) (E := E) (ids := ids) hX (hX 30 8 rfl) he23) (by decide) rfl hl.1 rfl (Nat.le_of_ble_eq_true rfl) dX10_tellSide_93 ⟨Nat.le_refl _, Nat.le_refl _⟩) (fun H locs hw => ?_)
      exact ea_vret C hw hf dX10_tellSide_96
    · replace hf := ea_if_t hc5 hf
      exact ea_vret C hw hf dX10_tellSide_21
set_option maxHeartbeats 4000000 in
set_option maxRecDepth 20000 in
theorem mX10_tellSide {l : Launch} {E : eE} {ids : List Nat} (hX : ea_X ids) {x1 : Int32} {x2 : Int32} {x3 : Int32} {x4 : Int32} {x5 : Int32} {x6 : Int32} {M : eM} {res : eM} (hf : fX10_tellSide x1 x2 x3 x4 x5 x6 M = some res) : ea_Mv l yX10_tellSide cX10_tellSide 8 4 94 E ids [.ref (E.1 0), .int x1, .int x2, .int x3, .int x4, .int x5, .int x6] M res := by
  refine ea_gov (by decide) (Nat.le_of_ble_eq_true rfl) wc_X10_tellSide ?_
  intro p e s m below meth cd ls C hw hl
  exact wX10_tellSide_0 C hX _ _ _ _ _ _ _ _ _ _ hf hw hl
end SX10_tellSide

def fX10_thread_0 (x1 : Int32) (x2 : Int32) (x3 : Int32) (x4 : Int32) (M : eM) : Option (Int32 × eM) := ea_ck (ea_is (M.2.2 4 0) 1) (ea_lt ((M.1 (M.2.2 4 0) 8) - (1 : Int32)) (fun y2 => ea_ci (fX10_isWithin x1 (0 : Int32) y2 M) (fun r5 M6 => if r5 = 0 then (some ((-2 : Int32), M6)) else (ea_ci (fX10_isWithin x2 (1 : Int32) (9 : Int32) M6) (fun r9 M10 => if r9 = 0 then (some ((-2 : Int32), M10)) else (ea_ci (fX9_rowOf x1 x2 M10) (fun r13 M14 => if x3 = (-1 : Int32) then (ea_ci (fX9_numberOf r13 (45 : Int32) M14) (fun r31 M32 => some (r31, M32))) else (ea_ci (fX10_isWithin x3 (x1 + (1 : Int32)) y2 M14) (fun r17 M18 => if r17 = 0 then (some ((-2 : Int32), M18)) else (ea_ci (fX10_isWithin x4 (1 : Int32) (9 : Int32) M18) (fun r21 M22 => if r21 = 0 then (some ((-2 : Int32), M22)) else (ea_ci (fX9_rowOf x3 x4 M22) (fun r25 M26 => ea_ci (fX9_numberOf r13 r25 M26) (fun r28 M29 => some (r28, M29)))))))))))))))
def fX10_thread (x1 : Int32) (x2 : Int32) (x3 : Int32) (x4 : Int32) (M : eM) : Option (Int32 × eM) := fX10_thread_0 x1 x2 x3 x4 M
section SX10_thread
variable {p : Program} {l : Launch} {e : Env} {s : State} {m : MethodId} {args : Array Value} {below : List Frame} {meth : Method} {cd : Code} {E : eE} {ids : List Nat} {res : Int32 × eM}
set_option maxHeartbeats 4000000 in
set_option maxRecDepth 20000 in
theorem wX10_thread_0 (C : ea_C p s m args meth cd cX10_thread 7 (some .int) RX10) (hX : ea_X ids) : ∀ (x1 : Int32) (x2 : Int32) (x3 : Int32) (x4 : Int32) (M : eM) (H : Heap) (locs : List Loc) (ls : Array Slot), fX10_thread_0 x1 x2 x3 x4 M = some res → ea_w E ids M s H locs → lv_has ls 7 [(0, .ref (E.1 0)), (1, .int x1), (2, .int x2), (3, .int x3), (4, .int x4)] → W p l e (ea_rm 1 23) s m args below meth cd H locs 0 0 (MQ below (ea_Qi E ids res) args s 0 0 (ea_Ad E ids)) (F0 m 0 ls []) := by
  intro x1 x2 x3 x4 M H locs ls hf  hw hl
  replace hf := (fX10_thread_0.eq_1 ..).symm.trans hf
  refine lv_aload_n C.1 C.2.1 dX10_thread_0 rfl (lv_at hl 0 rfl) ?_
  refine gf_X10_24 C hw (hX 0 10 rfl) dX10_thread_1 ?_
  refine gf_X10_110 C hw (hX 4 9 rfl) dX10_thread_4 ?_
  obtain ⟨hc1, hf⟩ := ea_ck_s hf
  refine gf_X10_155 C hw (ea_dyn hX hc1) dX10_thread_7 ?_
  refine lv_iconst (v := 1) C.1 C.2.1 dX10_thread_10 (by decide) ?_
  refine lv_isub C.1 C.2.1 dX10_thread_11 ?_
  obtain ⟨y2, ey3, hf⟩ := ea_lt_s hf
  refine ea_topi ey3 ?_
  refine lv_istore (lv' := [(5, .int y2), (0, .ref (E.1 0)), (1, .int x1), (2, .int x2), (3, .int x3), (4, .int x4)]) C.1 C.2.1 dX10_thread_12 hl (by decide) rfl (fun ls hl => ?_)
  refine lv_iload_n C.1 C.2.1 dX10_thread_14 rfl (lv_at hl 2 rfl) ?_
  refine lv_iconst (v := 0) C.1 C.2.1 dX10_thread_15 (by decide) ?_
  refine lv_iload C.1 C.2.1 dX10_thread_16 (lv_at hl 0 rfl) ?_
  obtain ⟨r5, M6, he4, hf⟩ := ea_ci_s hf
  refine ea_runi2 hw (cl_X10_133 C hw (As := [.int x1, .int (0 : Int32), .int y2]) (rest := []) (mX10_isWithin (l := l) (E := E) (ids := ids) hX he4) (by decide) rfl hl.1 rfl (Nat.le_of_ble_eq_true rfl) dX10_thread_18 ⟨Nat.le_refl _, Nat.le_refl _⟩) (fun H locs hw => ?_)
  refine lv_if_eq (tgt := 34) C.1 C.2.1 dX10_thread_21 (by decide) (fun hc7 => ?_) (fun hc7 => ?_)
  · replace hf := ea_if_t hc7 hf
    refine lv_bipush (v := (-2 : Int32)) C.1 C.2.1 dX10_thread_34 (by decide) ?_
    exact ea_iret C hw hf dX10_thread_36
  · replace hf := ea_if_f hc7 hf
    refine lv_iload_n C.1 C.2.1 dX10_thread_24 rfl (lv_at hl 3 rfl) ?_
    refine lv_iconst (v := 1) C.1 C.2.1 dX10_thread_25 (by decide) ?_
    refine lv_bipush (v := 9) C.1 C.2.1 dX10_thread_26 (by decide) ?_
    obtain ⟨r9, M10, he8, hf⟩ := ea_ci_s hf
    refine ea_runi2 hw (cl_X10_133 C hw (As := [.int x2, .int (1 : Int32), .int (9 : Int32)]) (rest := []) (mX10_isWithin (l := l) (E := E) (ids := ids) hX he8) (by decide) rfl hl.1 rfl (Nat.le_of_ble_eq_true rfl) dX10_thread_28 ⟨Nat.le_refl _, Nat.le_refl _⟩) (fun H locs hw => ?_)
    refine lv_if_ne (tgt := 37) C.1 C.2.1 dX10_thread_31 (by decide) (fun hc11 => ?_) (fun hc11 => ?_)
    · replace hf := ea_if_f hc11 hf
      refine lv_iload_n C.1 C.2.1 dX10_thread_37 rfl (lv_at hl 2 rfl) ?_
      refine lv_iload_n C.1 C.2.1 dX10_thread_38 rfl (lv_at hl 3 rfl) ?_
      obtain ⟨r13, M14, he12, hf⟩ := ea_ci_s hf
      refine ea_runi2 hw (cl_X10_177 C hw (As := [.int x1, .int x2]) (rest := []) (mX9_rowOf (l := l) (E := E) (ids := ids) hX he12) (by decide) rfl hl.1 rfl (Nat.le_of_ble_eq_true rfl) dX10_thread_39 ⟨Nat.le_refl _, Nat.le_refl _⟩) (fun H locs hw => ?_)
      refine lv_istore (lv' := [(6, .int r13), (5, .int y2), (0, .ref (E.1 0)), (1, .int x1), (2, .int x2), (3, .int x3), (4, .int x4)]) C.1 C.2.1 dX10_thread_42 hl (by decide) rfl (fun ls hl => ?_)
      refine lv_iload_n C.1 C.2.1 dX10_thread_44 rfl (lv_at hl 5 rfl) ?_
      refine lv_iconst (v := (-1 : Int32)) C.1 C.2.1 dX10_thread_45 (by decide) ?_
      refine lv_icmp_ne (tgt := 61) C.1 C.2.1 dX10_thread_46 (by decide) (fun hc15 => ?_) (fun hc15 => ?_)
      · replace hf := ea_if_f hc15 hf
        refine lv_iload_n C.1 C.2.1 dX10_thread_61 rfl (lv_at hl 5 rfl) ?_
        refine lv_iload_n C.1 C.2.1 dX10_thread_62 rfl (lv_at hl 3 rfl) ?_
        refine lv_iconst (v := 1) C.1 C.2.1 dX10_thread_63 (by decide) ?_
        refine lv_iadd C.1 C.2.1 dX10_thread_64 ?_
        refine lv_iload C.1 C.2.1 dX10_thread_65 (lv_at hl 1 rfl) ?_
        obtain ⟨r17, M18, he16, hf⟩ := ea_ci_s hf
        refine ea_runi2 hw (cl_X10_133 C hw (As := [.int x3, .int (x1 + (1 : Int32)), .int y2]) (rest := []) (mX10_isWithin (l := l) (E := E) (ids := ids) hX he16) (by decide) rfl hl.1 rfl (Nat.le_of_ble_eq_true rfl) dX10_thread_67 ⟨Nat.le_refl _, Nat.le_refl _⟩) (fun H locs hw => ?_)
        refine lv_if_eq (tgt := 84) C.1 C.2.1 dX10_thread_70 (by decide) (fun hc19 => ?_) (fun hc19 => ?_)
        · replace hf := ea_if_t hc19 hf
          refine lv_bipush (v := (-2 : Int32)) C.1 C.2.1 dX10_thread_84 (by decide) ?_
          exact ea_iret C hw hf dX10_thread_86
        · replace hf := ea_if_f hc19 hf
          refine lv_iload C.1 C.2.1 dX10_thread_73 (lv_at hl 6 rfl) ?_
          refine lv_iconst (v := 1) C.1 C.2.1 dX10_thread_75 (by decide) ?_
          refine lv_bipush (v := 9) C.1 C.2.1 dX10_thread_76 (by decide) ?_
          obtain ⟨r21, M22, he20, hf⟩ := ea_ci_s hf
          refine ea_runi2 hw (cl_X10_133 C hw (As := [.int x4, .int (1 : Int32), .int (9 : Int32)]) (rest := []) (mX10_isWithin (l := l) (E := E) (ids := ids) hX he20) (by decide) rfl hl.1 rfl (Nat.le_of_ble_eq_true rfl) dX10_thread_78 ⟨Nat.le_refl _, Nat.le_refl _⟩) (fun H locs hw => ?_)
          refine lv_if_ne (tgt := 87) C.1 C.2.1 dX10_thread_81 (by decide) (fun hc23 => ?_) (fun hc23 => ?_)
          · replace hf := ea_if_f hc23 hf
            refine lv_aload_n C.1 C.2.1 dX10_thread_87 rfl (lv_at hl 2 rfl) ?_
            refine gf_X10_24 C hw (hX 0 10 rfl) dX10_thread_88 ?_
            refine lv_iload C.1 C.2.1 dX10_thread_91 (lv_at hl 0 rfl) ?_
            refine lv_iload_n C.1 C.2.1 dX10_thread_93 rfl (lv_at hl 5 rfl) ?_
            refine lv_iload C.1 C.2.1 dX10_thread_94 (lv_at hl 6 rfl) ?_
            obtain ⟨r25, M26, he24, hf⟩ := ea_ci_s hf
            refine ea_runi2 hw (cl_X10_177 C hw (As := [.int x3, .int x4]) (rest := [.int r13, .ref (E.1 4)]) (mX9_rowOf (l := l) (E := E) (ids := ids) hX he24) (by decide) rfl hl.1 rfl (Nat.le_of_ble_eq_true rfl) dX10_thread_96 ⟨Nat.le_refl _, Nat.le_refl _⟩) (fun H locs hw => ?_)
            obtain ⟨r28, M29, he27, hf⟩ := ea_ci_s hf
            refine ea_runi2 hw (cl_X10_180 C hw (hX 4 9 rfl) (As := [.int r13, .int r25]) (rest := []) (mX9_numberOf (l := l) (E := E) (ids := ids) hX he27) (by decide) rfl hl.1 rfl (Nat.le_of_ble_eq_true rfl) dX10_thread_99 ⟨Nat.le_refl _, Nat.le_refl _⟩) (fun H locs hw => ?_)
            exact ea_iret C hw hf dX10_thread_102
          · replace hf := ea_if_t hc23 hf
            refine lv_bipush (v := (-2 : Int32)) C.1 C.2.1 dX10_thread_84 (by decide) ?_
            exact ea_iret C hw hf dX10_thread_86
      · replace hf := ea_if_t hc15 hf
        refine lv_aload_n C.1 C.2.1 dX10_thread_49 rfl (lv_at hl 2 rfl) ?_
        refine gf_X10_24 C hw (hX 0 10 rfl) dX10_thread_50 ?_
        refine lv_iload C.1 C.2.1 dX10_thread_53 (lv_at hl 0 rfl) ?_
        refine lv_bipush (v := 45) C.1 C.2.1 dX10_thread_55 (by decide) ?_
        obtain ⟨r31, M32, he30, hf⟩ := ea_ci_s hf
        refine ea_runi2 hw (cl_X10_180 C hw (hX 4 9 rfl) (As := [.int r13, .int (45 : Int32)]) (rest := []) (mX9_numberOf (l := l) (E := E) (ids := ids) hX he30) (by decide) rfl hl.1 rfl (Nat.le_of_ble_eq_true rfl) dX10_thread_57 ⟨Nat.le_refl _, Nat.le_refl _⟩) (fun H locs hw => ?_)
        exact ea_iret C hw hf dX10_thread_60
    · replace hf := ea_if_t hc11 hf
      refine lv_bipush (v := (-2 : Int32)) C.1 C.2.1 dX10_thread_34 (by decide) ?_
      exact ea_iret C hw hf dX10_thread_36
set_option maxHeartbeats 4000000 in
set_option maxRecDepth 20000 in
theorem mX10_thread {l : Launch} {E : eE} {ids : List Nat} (hX : ea_X ids) {x1 : Int32} {x2 : Int32} {x3 : Int32} {x4 : Int32} {M : eM} {res : Int32 × eM} (hf : fX10_thread x1 x2 x3 x4 M = some res) : ea_Mi l yX10_thread cX10_thread 7 (some .int) 1 23 E ids [.ref (E.1 0), .int x1, .int x2, .int x3, .int x4] M res := by
  refine ea_goi (by decide) (Nat.le_of_ble_eq_true rfl) wc_X10_thread ?_
  intro p e s m below meth cd ls C hw hl
  exact wX10_thread_0 C hX _ _ _ _ _ _ _ _ hf hw hl
end SX10_thread

def fX10_thrown_0 (x1 : Int32) (x2 : Int32) (x3 : Int32) (x4 : Int32) (x5 : Int32) (M : eM) : Option (Int32 × eM) := ea_ci (fX10_isCell x1 M) (fun r2 M3 => if r2 = 0 then (some ((-2 : Int32), M3)) else (ea_ci (fX10_mayThrow x2 x3 x4 M3) (fun r6 M7 => if r6 = 0 then (some ((-2 : Int32), M7)) else (ea_ci (fX10_isWithin x5 (0 : Int32) (3 : Int32) M7) (fun r10 M11 => if r10 = 0 then (some ((-2 : Int32), M11)) else (ea_ci (fX8_latestLook 30 x1 (0 : Int32) (999 : Int32) M11) (fun r14 M15 => ea_ci (fX8_isSeen 30 r14 M15) (fun r17 M18 => if r17 = 0 then (some ((-1 : Int32), M18)) else (ea_cv (fX10_throwLight x1 r14 x2 x3 x4 M18) (fun M21 => if x5 = (3 : Int32) then (some (M21.1 72 3, M21)) else (ea_ck (ea_ix x5 (ea_len 75)) (some (M21.1 75 x5.toNatClampNeg, M21)))))))))))))
def fX10_thrown (x1 : Int32) (x2 : Int32) (x3 : Int32) (x4 : Int32) (x5 : Int32) (M : eM) : Option (Int32 × eM) := fX10_thrown_0 x1 x2 x3 x4 x5 M
section SX10_thrown
variable {p : Program} {l : Launch} {e : Env} {s : State} {m : MethodId} {args : Array Value} {below : List Frame} {meth : Method} {cd : Code} {E : eE} {ids : List Nat} {res : Int32 × eM}
set_option maxHeartbeats 4000000 in
set_option maxRecDepth 20000 in
theorem wX10_thrown_0 (C : ea_C p s m args meth cd cX10_thrown 7 (some .int) RX10) (hX : ea_X ids) : ∀ (x1 : Int32) (x2 : Int32) (x3 : Int32) (x4 : Int32) (x5 : Int32) (M : eM) (H : Heap) (locs : List Loc) (ls : Array Slot), fX10_thrown_0 x1 x2 x3 x4 x5 M = some res → ea_w E ids M s H locs → lv_has ls 7 [(0, .ref (E.1 0)), (1, .int x1), (2, .int x2), (3, .int x3), (4, .int x4), (5, .int x5)] → W p l e (ea_rm 5 129) s m args below meth cd H locs 0 0 (MQ below (ea_Qi E ids res) args s 0 0 (ea_Ad E ids)) (F0 m 0 ls []) := by
  intro x1 x2 x3 x4 x5 M H locs ls hf  hw hl
  replace hf := (fX10_thrown_0.eq_1 ..).symm.trans hf
  refine lv_aload_n C.1 C.2.1 dX10_thrown_0 rfl (lv_at hl 0 rfl) ?_
  refine lv_iload_n C.1 C.2.1 dX10_thrown_1 rfl (lv_at hl 1 rfl) ?_
  obtain ⟨r2, M3, he1, hf⟩ := ea_ci_s hf
  refine ea_runi2 hw (cl_X10_196 C hw (hX 0 10 rfl) (As := [.int x1]) (rest := []) (mX10_isCell (l := l) (E := E) (ids := ids) hX he1) (by decide) rfl hl.1 rfl (Nat.le_of_ble_eq_true rfl) dX10_thrown_2 ⟨Nat.le_refl _, Nat.le_refl _⟩) (fun H locs hw => ?_)
  refine lv_if_eq (tgt := 29) C.1 C.2.1 dX10_thrown_5 (by decide) (fun hc4 => ?_) (fun hc4 => ?_)
  · replace hf := ea_if_t hc4 hf
    refine lv_bipush (v := (-2 : Int32)) C.1 C.2.1 dX10_thrown_29 (by decide) ?_
    exact ea_iret C hw hf dX10_thrown_31
  · replace hf := ea_if_f hc4 hf
    refine lv_aload_n C.1 C.2.1 dX10_thrown_8 rfl (lv_at hl 0 rfl) ?_
    refine lv_iload_n C.1 C.2.1 dX10_thrown_9 rfl (lv_at hl 2 rfl) ?_
    refine lv_iload_n C.1 C.2.1 dX10_thrown_10 rfl (lv_at hl 3 rfl) ?_
    refine lv_iload C.1 C.2.1 dX10_thrown_11 (lv_at hl 4 rfl) ?_
    obtain ⟨r6, M7, he5, hf⟩ := ea_ci_s hf
    refine ea_runi2 hw (cl_X10_322 C hw (hX 0 10 rfl) (As := [.int x2, .int x3, .int x4]) (rest := []) (mX10_mayThrow (l := l) (E := E) (ids := ids) hX he5) (by decide) rfl hl.1 rfl (Nat.le_of_ble_eq_true rfl) dX10_thrown_13 ⟨Nat.le_refl _, Nat.le_refl _⟩) (fun H locs hw => ?_)
    refine lv_if_eq (tgt := 29) C.1 C.2.1 dX10_thrown_16 (by decide) (fun hc8 => ?_) (fun hc8 => ?_)
    · replace hf := ea_if_t hc8 hf
      refine lv_bipush (v := (-2 : Int32)) C.1 C.2.1 dX10_thrown_29 (by decide) ?_
      exact ea_iret C hw hf dX10_thrown_31
    · replace hf := ea_if_f hc8 hf
      refine lv_iload C.1 C.2.1 dX10_thrown_19 (lv_at hl 5 rfl) ?_
      refine lv_iconst (v := 0) C.1 C.2.1 dX10_thrown_21 (by decide) ?_
      refine lv_iconst (v := 3) C.1 C.2.1 dX10_thrown_22 (by decide) ?_
      obtain ⟨r10, M11, he9, hf⟩ := ea_ci_s hf
      refine ea_runi2 hw (cl_X10_133 C hw (As := [.int x5, .int (0 : Int32), .int (3 : Int32)]) (rest := []) (mX10_isWithin (l := l) (E := E) (ids := ids) hX he9) (by decide) rfl hl.1 rfl (Nat.le_of_ble_eq_true rfl) dX10_thrown_23 ⟨Nat.le_refl _, Nat.le_refl _⟩) (fun H locs hw => ?_)
      refine lv_if_ne (tgt := 32) C.1 C.2.1 dX10_thrown_26 (by decide) (fun hc12 => ?_) (fun hc12 => ?_)
      · replace hf := ea_if_f hc12 hf
        refine lv_aload_n C.1 C.2.1 dX10_thrown_32 rfl (lv_at hl 0 rfl) ?_
        refine gf_X10_44 C hw (hX 0 10 rfl) dX10_thrown_33 ?_
        refine lv_iload_n C.1 C.2.1 dX10_thrown_36 rfl (lv_at hl 1 rfl) ?_
        refine lv_iconst (v := 0) C.1 C.2.1 dX10_thrown_37 (by decide) ?_
        refine lv_sipush (v := 999) C.1 C.2.1 dX10_thrown_38 (by decide) ?_
        obtain ⟨r14, M15, he13, hf⟩ := ea_ci_s hf
        refine ea_runi2 hw (cl_X10_228 C hw (hX 30 8 rfl) (As := [.int x1, .int (0 : Int32), .int (999 : Int32)]) (rest := []) (mX8_latestLook (l := l) (E := E) (ids := ids) hX (hX 30 8 rfl) he13) (by decide) rfl hl.1 rfl (Nat.le_of_ble_eq_true rfl) dX10_thrown_41 ⟨Nat.le_refl _, Nat.le_refl _⟩) (fun H locs hw => ?_)
        refine lv_istore (lv' := [(6, .int r14), (0, .ref (E.1 0)), (1, .int x1), (2, .int x2), (3, .int x3), (4, .int x4), (5, .int x5)]) C.1 C.2.1 dX10_thrown_44 hl (by decide) rfl (fun ls hl => ?_)
        refine lv_aload_n C.1 C.2.1 dX10_thrown_46 rfl (lv_at hl 1 rfl) ?_
        refine gf_X10_44 C hw (hX 0 10 rfl) dX10_thrown_47 ?_
        refine lv_iload C.1 C.2.1 dX10_thrown_50 (lv_at hl 0 rfl) ?_
        obtain ⟨r17, M18, he16, hf⟩ := ea_ci_s hf
        refine ea_runi2 hw (cl_X10_273 C hw (hX 30 8 rfl) (As := [.int r14]) (rest := []) (mX8_isSeen (l := l) (E := E) (ids := ids) hX (hX 30 8 rfl) he16) (by decide) rfl hl.1 rfl (Nat.le_of_ble_eq_true rfl) dX10_thrown_52 ⟨Nat.le_refl _, Nat.le_refl _⟩) (fun H locs hw => ?_)
        refine lv_if_ne (tgt := 60) C.1 C.2.1 dX10_thrown_55 (by decide) (fun hc19 => ?_) (fun hc19 => ?_)
        · replace hf := ea_if_f hc19 hf
          refine lv_aload_n C.1 C.2.1 dX10_thrown_60 rfl (lv_at hl 1 rfl) ?_
          refine lv_iload_n C.1 C.2.1 dX10_thrown_61 rfl (lv_at hl 2 rfl) ?_
          refine lv_iload C.1 C.2.1 dX10_thrown_62 (lv_at hl 0 rfl) ?_
          refine lv_iload_n C.1 C.2.1 dX10_thrown_64 rfl (lv_at hl 3 rfl) ?_
          refine lv_iload_n C.1 C.2.1 dX10_thrown_65 rfl (lv_at hl 4 rfl) ?_
          refine lv_iload C.1 C.2.1 dX10_thrown_66 (lv_at hl 5 rfl) ?_
          obtain ⟨M21, he20, hf⟩ := ea_cv_s hf
          refine ea_runv hw (cl_X10_325 C hw (hX 0 10 rfl) (As := [.int x1, .int r14, .int x2, .int x3, .int x4]) (rest := []) (mX10_throwLight (l := l) (E := E) (ids := ids) hX he20) (by decide) rfl hl.1 rfl (Nat.le_of_ble_eq_true rfl) dX10_thrown_68 ⟨Nat.le_refl _, Nat.le_refl _⟩) (fun H locs hw => ?_)
          refine lv_iload C.1 C.2.1 dX10_thrown_71 (lv_at hl 6 rfl) ?_
          refine lv_iconst (v := 3) C.1 C.2.1 dX10_thrown_73 (by decide) ?_
          refine lv_icmp_ne (tgt := 87) C.1 C.2.1 dX10_thrown_74 (by decide) (fun hc22 => ?_) (fun hc22 => ?_)
          · replace hf := ea_if_f hc22 hf
            refine lv_aload_n C.1 C.2.1 dX10_thrown_87 rfl (lv_at hl 1 rfl) ?_
            refine gf_X10_74 C hw (hX 0 10 rfl) dX10_thrown_88 ?_
            refine gf_X10_331 C hw (hX 72 6 rfl) dX10_thrown_91 ?_
            refine W.eq (g2 := F0 m 94 ls [.ref (E.1 75)]) rfl ?_
            refine lv_iload C.1 C.2.1 dX10_thrown_94 (lv_at hl 6 rfl) ?_
            obtain ⟨hc23, hf⟩ := ea_ck_s hf
            refine ea_iald C hw (show ea_ok ids 75 20 from ok_6_2 (hX 72 6 rfl)) hc23 dX10_thrown_96 ?_
            exact ea_iret C hw hf dX10_thrown_97
          · replace hf := ea_if_t hc22 hf
            refine lv_aload_n C.1 C.2.1 dX10_thrown_77 rfl (lv_at hl 1 rfl) ?_
            refine gf_X10_74 C hw (hX 0 10 rfl) dX10_thrown_78 ?_
            refine gf_X10_328 C hw (hX 72 6 rfl) dX10_thrown_81 ?_
            refine lv_goto (tgt := 97) C.1 C.2.1 dX10_thrown_84 (by decide) ?_
            exact ea_iret C hw hf dX10_thrown_97
        · replace hf := ea_if_t hc19 hf
          refine lv_iconst (v := (-1 : Int32)) C.1 C.2.1 dX10_thrown_58 (by decide) ?_
          exact ea_iret C hw hf dX10_thrown_59
      · replace hf := ea_if_t hc12 hf
        refine lv_bipush (v := (-2 : Int32)) C.1 C.2.1 dX10_thrown_29 (by decide) ?_
        exact ea_iret C hw hf dX10_thrown_31
set_option maxHeartbeats 4000000 in
set_option maxRecDepth 20000 in
theorem mX10_thrown {l : Launch} {E : eE} {ids : List Nat} (hX : ea_X ids) {x1 : Int32} {x2 : Int32} {x3 : Int32} {x4 : Int32} {x5 : Int32} {M : eM} {res : Int32 × eM} (hf : fX10_thrown x1 x2 x3 x4 x5 M = some res) : ea_Mi l yX10_thrown cX10_thrown 7 (some .int) 5 129 E ids [.ref (E.1 0), .int x1, .int x2, .int x3, .int x4, .int x5] M res := by
  refine ea_goi (by decide) (Nat.le_of_ble_eq_true rfl) wc_X10_thrown ?_
  intro p e s m below meth cd ls C hw hl
  exact wX10_thrown_0 C hX _ _ _ _ _ _ _ _ _ hf hw hl
end SX10_thrown
