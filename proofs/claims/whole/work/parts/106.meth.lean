def fX1_numberTold_0 (a0 : Nat) (x1 : Int32) (M : eM) : Option (Int32 × eM) := if x1 = (0 : Int32) then (some (M.1 a0 0, M)) else (if x1 = (1 : Int32) then (some (M.1 a0 1, M)) else (if x1 = (2 : Int32) then (some (M.1 a0 2, M)) else (if x1 = (3 : Int32) then (some (M.1 a0 3, M)) else (if x1 = (4 : Int32) then (some (M.1 a0 8, M)) else (if x1 = (5 : Int32) then (some (M.1 a0 11, M)) else (if x1 = (6 : Int32) then (some (M.1 a0 15, M)) else (if x1 = (7 : Int32) then (some (M.1 a0 6, M)) else (some ((-1 : Int32), M)))))))))
def fX1_numberTold (a0 : Nat) (x1 : Int32) (M : eM) : Option (Int32 × eM) := fX1_numberTold_0 a0 x1 M
section SX1_numberTold
variable {p : Program} {l : Launch} {e : Env} {s : State} {m : MethodId} {args : Array Value} {below : List Frame} {meth : Method} {cd : Code} {E : eE} {ids : List Nat} {res : Int32 × eM} {a0 : Nat}
set_option maxHeartbeats 4000000 in
set_option maxRecDepth 20000 in
theorem wX1_numberTold_0 (C : ea_C p s m args meth cd cX1_numberTold 2 (some .int) RX1) (hX : ea_X ids) (ho0 : ea_ok ids a0 1) : ∀ (x1 : Int32) (M : eM) (H : Heap) (locs : List Loc) (ls : Array Slot), fX1_numberTold_0 a0 x1 M = some res → ea_w E ids M s H locs → lv_has ls 2 [(0, .ref (E.1 a0)), (1, .int x1)] → W p l e (ea_rm 0 0) s m args below meth cd H locs 0 0 (MQ below (ea_Qi E ids res) args s 0 0 (ea_Ad E ids)) (F0 m 0 ls []) := by
  intro x1 M H locs ls hf  hw hl
  replace hf := (fX1_numberTold_0.eq_1 ..).symm.trans hf
  refine lv_iload_n C.1 C.2.1 dX1_numberTold_0 rfl (lv_at hl 1 rfl) ?_
  by_cases hc1 : x1 = (0 : Int32)
  · replace hf := ea_if_t hc1 hf
    refine lv_tableIn (tgt := 48) C.1 C.2.1 dX1_numberTold_1 (by rw [hc1]; decide) (by rw [hc1]; decide) (by rw [hc1]; rfl) (by decide) ?_
    refine lv_aload_n C.1 C.2.1 dX1_numberTold_48 rfl (lv_at hl 0 rfl) ?_
    refine gf_X1_43 C hw ho0 dX1_numberTold_49 ?_
    exact ea_iret C hw hf dX1_numberTold_52
  · replace hf := ea_if_f hc1 hf
    by_cases hc2 : x1 = (1 : Int32)
    · replace hf := ea_if_t hc2 hf
      refine lv_tableIn (tgt := 53) C.1 C.2.1 dX1_numberTold_1 (by rw [hc2]; decide) (by rw [hc2]; decide) (by rw [hc2]; rfl) (by decide) ?_
      refine lv_aload_n C.1 C.2.1 dX1_numberTold_53 rfl (lv_at hl 0 rfl) ?_
      refine gf_X1_47 C hw ho0 dX1_numberTold_54 ?_
      exact ea_iret C hw hf dX1_numberTold_57
    · replace hf := ea_if_f hc2 hf
      by_cases hc3 : x1 = (2 : Int32)
      · replace hf := ea_if_t hc3 hf
        refine lv_tableIn (tgt := 58) C.1 C.2.1 dX1_numberTold_1 (by rw [hc3]; decide) (by rw [hc3]; decide) (by rw [hc3]; rfl) (by decide) ?_
        refine lv_aload_n C.1 C.2.1 dX1_numberTold_58 rfl (lv_at hl 0 rfl) ?_
        refine gf_X1_50 C hw ho0 dX1_numberTold_59 ?_
        exact ea_iret C hw hf dX1_numberTold_62
      · replace hf := ea_if_f hc3 hf
        by_cases hc4 : x1 = (3 : Int32)
        · replace hf := ea_if_t hc4 hf
          refine lv_tableIn (tgt := 63) C.1 C.2.1 dX1_numberTold_1 (by rw [hc4]; decide) (by rw [hc4]; decide) (by rw [hc4]; rfl) (by decide) ?_
          refine lv_aload_n C.1 C.2.1 dX1_numberTold_63 rfl (lv_at hl 0 rfl) ?_
          refine gf_X1_53 C hw ho0 dX1_numberTold_64 ?_
          exact ea_iret C hw hf dX1_numberTold_67
        · replace hf := ea_if_f hc4 hf
          by_cases hc5 : x1 = (4 : Int32)
          · replace hf := ea_if_t hc5 hf
            refine lv_tableIn (tgt := 68) C.1 C.2.1 dX1_numberTold_1 (by rw [hc5]; decide) (by rw [hc5]; decide) (by rw [hc5]; rfl) (by decide) ?_
            refine lv_aload_n C.1 C.2.1 dX1_numberTold_68 rfl (lv_at hl 0 rfl) ?_
            refine gf_X1_68 C hw ho0 dX1_numberTold_69 ?_
            exact ea_iret C hw hf dX1_numberTold_72
          · replace hf := ea_if_f hc5 hf
            by_cases hc6 : x1 = (5 : Int32)
            · replace hf := ea_if_t hc6 hf
              refine lv_tableIn (tgt := 73) C.1 C.2.1 dX1_numberTold_1 (by rw [hc6]; decide) (by rw [hc6]; decide) (by rw [hc6]; rfl) (by decide) ?_
              refine lv_aload_n C.1 C.2.1 dX1_numberTold_73 rfl (lv_at hl 0 rfl) ?_
              refine gf_X1_71 C hw ho0 dX1_numberTold_74 ?_
              exact ea_iret C hw hf dX1_numberTold_77
            · replace hf := ea_if_f hc6 hf
              by_cases hc7 : x1 = (6 : Int32)
              · replace hf := ea_if_t hc7 hf
                refine lv_tableIn (tgt := 78) C.1 C.2.1 dX1_numberTold_1 (by rw [hc7]; decide) (by rw [hc7]; decide) (by rw [hc7]; rfl) (by decide) ?_
                refine lv_aload_n C.1 C.2.1 dX1_numberTold_78 rfl (lv_at hl 0 rfl) ?_
                refine gf_X1_74 C hw ho0 dX1_numberTold_79 ?_
                exact ea_iret C hw hf dX1_numberTold_82
              · replace hf := ea_if_f hc7 hf
                by_cases hc8 : x1 = (7 : Int32)
                · replace hf := ea_if_t hc8 hf
                  refine lv_tableIn (tgt := 83) C.1 C.2.1 dX1_numberTold_1 (by rw [hc8]; decide) (by rw [hc8]; decide) (by rw [hc8]; rfl) (by decide) ?_
                  refine lv_aload_n C.1 C.2.1 dX1_numberTold_83 rfl (lv_at hl 0 rfl) ?_
                  refine gf_X1_65 C hw ho0 dX1_numberTold_84 ?_
                  exact ea_iret C hw hf dX1_numberTold_87
                · replace hf := ea_if_f hc8 hf
                  refine lv_tableOut (tgt := 88) C.1 C.2.1 dX1_numberTold_1 (by have e0 : x1.toInt ≠ 0 := fun q => hc1 (Int32.toInt_inj.mp q); have e1 : x1.toInt ≠ 1 := fun q => hc2 (Int32.toInt_inj.mp q); have e2 : x1.toInt ≠ 2 := fun q => hc3 (Int32.toInt_inj.mp q); have e3 : x1.toInt ≠ 3 := fun q => hc4 (Int32.toInt_inj.mp q); have e4 : x1.toInt ≠ 4 := fun q => hc5 (Int32.toInt_inj.mp q); have e5 : x1.toInt ≠ 5 := fun q => hc6 (Int32.toInt_inj.mp q); have e6 : x1.toInt ≠ 6 := fun q => hc7 (Int32.toInt_inj.mp q); have e7 : x1.toInt ≠ 7 := fun q => hc8 (Int32.toInt_inj.mp q); omega) (by decide) ?_
                  refine lv_iconst (v := (-1 : Int32)) C.1 C.2.1 dX1_numberTold_88 (by decide) ?_
                  exact ea_iret C hw hf dX1_numberTold_89
set_option maxHeartbeats 4000000 in
set_option maxRecDepth 20000 in
theorem mX1_numberTold {l : Launch} {E : eE} {ids : List Nat} (hX : ea_X ids) {a0 : Nat} {x1 : Int32} (ho0 : ea_ok ids a0 1) {M : eM} {res : Int32 × eM} (hf : fX1_numberTold a0 x1 M = some res) : ea_Mi l yX1_numberTold cX1_numberTold 2 (some .int) 0 0 E ids [.ref (E.1 a0), .int x1] M res := by
  refine ea_goi (by decide) (Nat.le_of_ble_eq_true rfl) wc_X1_numberTold ?_
  intro p e s m below meth cd ls C hw hl
  exact wX1_numberTold_0 C hX ho0 _ _ _ _ _ hf hw hl
end SX1_numberTold

def fX1_yearsOf_4 (a0 : Nat) : Nat → Int32 → Int32 → Int32 → eM → Option (Int32 × eM)
  | 0, _, _, _, _ => none
  | n + 1, x1, x2, x3, M => ea_ck (ea_ix x1 (ea_len (a0 + 6))) (if (M.1 (a0 + 6) x1.toNatClampNeg) ≤ x3 then (some (x2, M)) else (ea_ci (fX1_hangPlace x1 x3 M) (fun r4 M5 => ea_ck (ea_ix r4 (ea_len (a0 + 7))) (ea_lt (x2 + (M5.1 (a0 + 7) r4.toNatClampNeg)) (fun y7 => fX1_yearsOf_4 a0 n x1 y7 (x3 + (1 : Int32)) M5)))))
def fX1_yearsOf_0 (a0 : Nat) (x1 : Int32) (M : eM) : Option (Int32 × eM) := fX1_yearsOf_4 a0 ea_N x1 (0 : Int32) (0 : Int32) M
def fX1_yearsOf (a0 : Nat) (x1 : Int32) (M : eM) : Option (Int32 × eM) := fX1_yearsOf_0 a0 x1 M
section SX1_yearsOf
variable {p : Program} {l : Launch} {e : Env} {s : State} {m : MethodId} {args : Array Value} {below : List Frame} {meth : Method} {cd : Code} {E : eE} {ids : List Nat} {res : Int32 × eM} {a0 : Nat}
set_option maxHeartbeats 4000000 in
set_option maxRecDepth 20000 in
theorem wX1_yearsOf_4 (C : ea_C p s m args meth cd cX1_yearsOf 4 (some .int) RX1) (hX : ea_X ids) (ho0 : ea_ok ids a0 1) : ∀ (n : Nat) (x1 : Int32) (x2 : Int32) (x3 : Int32) (M : eM) (H : Heap) (locs : List Loc) (ls : Array Slot), fX1_yearsOf_4 a0 n x1 x2 x3 M = some res → ea_w E ids M s H locs → lv_has ls 4 [(0, .ref (E.1 a0)), (1, .int x1), (2, .int x2), (3, .int x3)] → W p l e (ea_rm 1 21) s m args below meth cd H locs 0 0 (MQ below (ea_Qi E ids res) args s 0 0 (ea_Ad E ids)) (F0 m 4 ls []) := by
  intro n
  induction n with
  | zero => intro x1 x2 x3 M H locs ls hf; cases hf
  | succ n ih =>
    intro x1 x2 x3 M H locs ls hf  hw hl
    replace hf := (fX1_yearsOf_4.eq_2 ..).symm.trans hf
    refine lv_iload_n C.1 C.2.1 dX1_yearsOf_4 rfl (lv_at hl 3 rfl) ?_
    refine lv_aload_n C.1 C.2.1 dX1_yearsOf_5 rfl (lv_at hl 0 rfl) ?_
    refine gf_X1_28 C hw ho0 dX1_yearsOf_6 ?_
    refine lv_iload_n C.1 C.2.1 dX1_yearsOf_9 rfl (lv_at hl 1 rfl) ?_
    obtain ⟨hc1, hf⟩ := ea_ck_s hf
    refine ea_iald C hw (ok_1_13 ho0) hc1 dX1_yearsOf_10 ?_
    refine lv_icmp_ge (tgt := 33) C.1 C.2.1 dX1_yearsOf_11 (by decide) (fun hc2 => ?_) (fun hc2 => ?_)
    · replace hf := ea_if_t hc2 hf
      refine lv_iload_n C.1 C.2.1 dX1_yearsOf_33 rfl (lv_at hl 2 rfl) ?_
      exact ea_iret C hw hf dX1_yearsOf_34
    · replace hf := ea_if_f hc2 hf
      refine lv_iload_n C.1 C.2.1 dX1_yearsOf_14 rfl (lv_at hl 2 rfl) ?_
      refine lv_aload_n C.1 C.2.1 dX1_yearsOf_15 rfl (lv_at hl 0 rfl) ?_
      refine gf_X1_31 C hw ho0 dX1_yearsOf_16 ?_
      refine lv_iload_n C.1 C.2.1 dX1_yearsOf_19 rfl (lv_at hl 1 rfl) ?_
      refine lv_iload_n C.1 C.2.1 dX1_yearsOf_20 rfl (lv_at hl 3 rfl) ?_
      obtain ⟨r4, M5, he3, hf⟩ := ea_ci_s hf
      refine ea_runi2 hw (cl_X1_85 C hw (As := [.int x1, .int x3]) (rest := [.ref (E.1 (a0 + 7)), .int x2]) (mX1_hangPlace (l := l) (E := E) (ids := ids) hX he3) (by decide) rfl hl.1 rfl (Nat.le_of_ble_eq_true rfl) dX1_yearsOf_21 ⟨Nat.le_refl _, Nat.le_refl _⟩) (fun H locs hw => ?_)
      obtain ⟨hc6, hf⟩ := ea_ck_s hf
      refine ea_iald C hw (ok_1_14 ho0) hc6 dX1_yearsOf_24 ?_
      refine lv_iadd C.1 C.2.1 dX1_yearsOf_25 ?_
      obtain ⟨y7, ey8, hf⟩ := ea_lt_s hf
      refine ea_topi ey8 ?_
      refine lv_istore_n (lv' := [(2, .int y7), (0, .ref (E.1 a0)), (1, .int x1), (3, .int x3)]) C.1 C.2.1 dX1_yearsOf_26 rfl hl (by decide) rfl (fun ls hl => ?_)
      refine lv_iinc (v := x3 + (1 : Int32)) (lv' := [(3, .int (x3 + (1 : Int32))), (2, .int y7), (0, .ref (E.1 a0)), (1, .int x1)]) C.1 C.2.1 dX1_yearsOf_27 hl (k := 3) rfl rfl (by decide) rfl (fun ls hl => ?_)
      refine lv_goto (tgt := 4) C.1 C.2.1 dX1_yearsOf_30 (by decide) ?_
      exact ih _ _ _ _ _ _ _ hf hw (lv_sub hl [2, 3, 1, 0] rfl)
set_option maxHeartbeats 4000000 in
set_option maxRecDepth 20000 in
theorem wX1_yearsOf_0 (C : ea_C p s m args meth cd cX1_yearsOf 4 (some .int) RX1) (hX : ea_X ids) (ho0 : ea_ok ids a0 1) : ∀ (x1 : Int32) (M : eM) (H : Heap) (locs : List Loc) (ls : Array Slot), fX1_yearsOf_0 a0 x1 M = some res → ea_w E ids M s H locs → lv_has ls 4 [(0, .ref (E.1 a0)), (1, .int x1)] → W p l e (ea_rm 1 21) s m args below meth cd H locs 0 0 (MQ below (ea_Qi E ids res) args s 0 0 (ea_Ad E ids)) (F0 m 0 ls []) := by
  intro x1 M H locs ls hf  hw hl
  replace hf := (fX1_yearsOf_0.eq_1 ..).symm.trans hf
  refine lv_iconst (v := 0) C.1 C.2.1 dX1_yearsOf_0 (by decide) ?_
  refine lv_istore_n (lv' := [(2, .int (0 : Int32)), (0, .ref (E.1 a0)), (1, .int x1)]) C.1 C.2.1 dX1_yearsOf_1 rfl hl (by decide) rfl (fun ls hl => ?_)
  refine lv_iconst (v := 0) C.1 C.2.1 dX1_yearsOf_2 (by decide) ?_
  refine lv_istore_n (lv' := [(3, .int (0 : Int32)), (2, .int (0 : Int32)), (0, .ref (E.1 a0)), (1, .int x1)]) C.1 C.2.1 dX1_yearsOf_3 rfl hl (by decide) rfl (fun ls hl => ?_)
  exact wX1_yearsOf_4 C hX ho0 ea_N _ _ _ _ _ _ _ hf hw (lv_sub hl [2, 3, 1, 0] rfl)
set_option maxHeartbeats 4000000 in
set_option maxRecDepth 20000 in
theorem mX1_yearsOf {l : Launch} {E : eE} {ids : List Nat} (hX : ea_X ids) {a0 : Nat} {x1 : Int32} (ho0 : ea_ok ids a0 1) {M : eM} {res : Int32 × eM} (hf : fX1_yearsOf a0 x1 M = some res) : ea_Mi l yX1_yearsOf cX1_yearsOf 4 (some .int) 1 21 E ids [.ref (E.1 a0), .int x1] M res := by
  refine ea_goi (by decide) (Nat.le_of_ble_eq_true rfl) wc_X1_yearsOf ?_
  intro p e s m below meth cd ls C hw hl
  exact wX1_yearsOf_0 C hX ho0 _ _ _ _ _ hf hw hl
end SX1_yearsOf

def fX10_told_24 (x1 : Int32) (q2 : Nat) (M : eM) : Option (Int32 × eM) := ea_ci (fX10_isWithin (x1 - (10 : Int32)) (0 : Int32) (2 : Int32) M) (fun r2 M3 => if r2 = 0 then (ea_ci (fX10_isWithin (x1 - (20 : Int32)) (0 : Int32) ((M3.1 q2 6) - (1 : Int32)) M3) (fun r6 M7 => if r6 = 0 then (ea_ci (fX10_isWithin (x1 - (30 : Int32)) (0 : Int32) ((M7.1 q2 11) - (1 : Int32)) M7) (fun r10 M11 => if r10 = 0 then (ea_ci (fX10_isWithin (x1 - (40 : Int32)) (0 : Int32) ((M11.1 q2 11) - (1 : Int32)) M11) (fun r14 M15 => if r14 = 0 then (some ((-1 : Int32), M15)) else (ea_ci (fX1_yearsOf q2 (x1 - (40 : Int32)) M15) (fun r18 M19 => some (r18, M19))))) else (ea_ck (ea_ix (x1 - (30 : Int32)) (ea_len (q2 + 6))) (some (M11.1 (q2 + 6) (x1 - (30 : Int32)).toNatClampNeg, M11))))) else (ea_ck (ea_ix (x1 - (20 : Int32)) (ea_len (q2 + 2))) (some (M7.1 (q2 + 2) (x1 - (20 : Int32)).toNatClampNeg, M7))))) else (ea_ck (ea_ix (x1 - (10 : Int32)) (ea_len (q2 + 1))) (some (M3.1 (q2 + 1) (x1 - (10 : Int32)).toNatClampNeg, M3))))
def fX10_told_0 (x1 : Int32) (M : eM) : Option (Int32 × eM) := ea_ck (ea_is (M.2.2 4 0) 1) (ea_lt (M.2.2 4 0) (fun y2 => if x1 < 0 then (fX10_told_24 x1 y2 M) else (if (10 : Int32) ≤ x1 then (fX10_told_24 x1 y2 M) else (ea_ci (fX1_numberTold y2 x1 M) (fun r7 M8 => some (r7, M8))))))
def fX10_told (x1 : Int32) (M : eM) : Option (Int32 × eM) := fX10_told_0 x1 M
section SX10_told
variable {p : Program} {l : Launch} {e : Env} {s : State} {m : MethodId} {args : Array Value} {below : List Frame} {meth : Method} {cd : Code} {E : eE} {ids : List Nat} {res : Int32 × eM}
set_option maxHeartbeats 4000000 in
set_option maxRecDepth 20000 in
theorem wX10_told_24 (C : ea_C p s m args meth cd cX10_told 3 (some .int) RX10) (hX : ea_X ids) : ∀ (x1 : Int32) (q2 : Nat) (M : eM) (H : Heap) (locs : List Loc) (ls : Array Slot), fX10_told_24 x1 q2 M = some res → ea_ok ids q2 1 → ea_w E ids M s H locs → lv_has ls 3 [(1, .int x1), (2, .ref (E.1 q2))] → W p l e (ea_rm 2 44) s m args below meth cd H locs 0 0 (MQ below (ea_Qi E ids res) args s 0 0 (ea_Ad E ids)) (F0 m 24 ls []) := by
  intro x1 q2 M H locs ls hf hq2 hw hl
  replace hf := (fX10_told_24.eq_1 ..).symm.trans hf
  refine lv_iload_n C.1 C.2.1 dX10_told_24 rfl (lv_at hl 0 rfl) ?_
  refine lv_bipush (v := 10) C.1 C.2.1 dX10_told_25 (by decide) ?_
  refine lv_isub C.1 C.2.1 dX10_told_27 ?_
  refine lv_iconst (v := 0) C.1 C.2.1 dX10_told_28 (by decide) ?_
  refine lv_iconst (v := 2) C.1 C.2.1 dX10_told_29 (by decide) ?_
  obtain ⟨r2, M3, he1, hf⟩ := ea_ci_s hf
  refine ea_runi2 hw (cl_X10_133 C hw (As := [.int (x1 - (10 : Int32)), .int (0 : Int32), .int (2 : Int32)]) (rest := []) (mX10_isWithin (l := l) (E := E) (ids := ids) hX he1) (by decide) rfl hl.1 rfl (Nat.le_of_ble_eq_true rfl) dX10_told_30 ⟨Nat.le_refl _, Nat.le_refl _⟩) (fun H locs hw => ?_)
  refine lv_if_eq (tgt := 46) C.1 C.2.1 dX10_told_33 (by decide) (fun hc4 => ?_) (fun hc4 => ?_)
  · replace hf := ea_if_t hc4 hf
    refine lv_iload_n C.1 C.2.1 dX10_told_46 rfl (lv_at hl 0 rfl) ?_
    refine lv_bipush (v := 20) C.1 C.2.1 dX10_told_47 (by decide) ?_
    refine lv_isub C.1 C.2.1 dX10_told_49 ?_
    refine lv_iconst (v := 0) C.1 C.2.1 dX10_told_50 (by decide) ?_
    refine lv_aload_n C.1 C.2.1 dX10_told_51 rfl (lv_at hl 1 rfl) ?_
    refine gf_X10_140 C hw hq2 dX10_told_52 ?_
    refine lv_iconst (v := 1) C.1 C.2.1 dX10_told_55 (by decide) ?_
    refine lv_isub C.1 C.2.1 dX10_told_56 ?_
    obtain ⟨r6, M7, he5, hf⟩ := ea_ci_s hf
    refine ea_runi2 hw (cl_X10_133 C hw (As := [.int (x1 - (20 : Int32)), .int (0 : Int32), .int ((M3.1 q2 6) - (1 : Int32))]) (rest := []) (mX10_isWithin (l := l) (E := E) (ids := ids) hX he5) (by decide) rfl hl.1 rfl (Nat.le_of_ble_eq_true rfl) dX10_told_57 ⟨Nat.le_refl _, Nat.le_refl _⟩) (fun H locs hw => ?_)
    refine lv_if_eq (tgt := 73) C.1 C.2.1 dX10_told_60 (by decide) (fun hc8 => ?_) (fun hc8 => ?_)
    · replace hf := ea_if_t hc8 hf
      refine lv_iload_n C.1 C.2.1 dX10_told_73 rfl (lv_at hl 0 rfl) ?_
      refine lv_bipush (v := 30) C.1 C.2.1 dX10_told_74 (by decide) ?_
      refine lv_isub C.1 C.2.1 dX10_told_76 ?_
      refine lv_iconst (v := 0) C.1 C.2.1 dX10_told_77 (by decide) ?_
      refine lv_aload_n C.1 C.2.1 dX10_told_78 rfl (lv_at hl 1 rfl) ?_
      refine gf_X10_146 C hw hq2 dX10_told_79 ?_
      refine lv_iconst (v := 1) C.1 C.2.1 dX10_told_82 (by decide) ?_
      refine lv_isub C.1 C.2.1 dX10_told_83 ?_
      obtain ⟨r10, M11, he9, hf⟩ := ea_ci_s hf
      refine ea_runi2 hw (cl_X10_133 C hw (As := [.int (x1 - (30 : Int32)), .int (0 : Int32), .int ((M7.1 q2 11) - (1 : Int32))]) (rest := []) (mX10_isWithin (l := l) (E := E) (ids := ids) hX he9) (by decide) rfl hl.1 rfl (Nat.le_of_ble_eq_true rfl) dX10_told_84 ⟨Nat.le_refl _, Nat.le_refl _⟩) (fun H locs hw => ?_)
      refine lv_if_eq (tgt := 100) C.1 C.2.1 dX10_told_87 (by decide) (fun hc12 => ?_) (fun hc12 => ?_)
      · replace hf := ea_if_t hc12 hf
        refine lv_iload_n C.1 C.2.1 dX10_told_100 rfl (lv_at hl 0 rfl) ?_
        refine lv_bipush (v := 40) C.1 C.2.1 dX10_told_101 (by decide) ?_
        refine lv_isub C.1 C.2.1 dX10_told_103 ?_
        refine lv_iconst (v := 0) C.1 C.2.1 dX10_told_104 (by decide) ?_
        refine lv_aload_n C.1 C.2.1 dX10_told_105 rfl (lv_at hl 1 rfl) ?_
        refine gf_X10_146 C hw hq2 dX10_told_106 ?_
        refine lv_iconst (v := 1) C.1 C.2.1 dX10_told_109 (by decide) ?_
        refine lv_isub C.1 C.2.1 dX10_told_110 ?_
        obtain ⟨r14, M15, he13, hf⟩ := ea_ci_s hf
        refine ea_runi2 hw (cl_X10_133 C hw (As := [.int (x1 - (40 : Int32)), .int (0 : Int32), .int ((M11.1 q2 11) - (1 : Int32))]) (rest := []) (mX10_isWithin (l := l) (E := E) (ids := ids) hX he13) (by decide) rfl hl.1 rfl (Nat.le_of_ble_eq_true rfl) dX10_told_111 ⟨Nat.le_refl _, Nat.le_refl _⟩) (fun H locs hw => ?_)
        refine lv_if_eq (tgt := 126) C.1 C.2.1 dX10_told_114 (by decide) (fun hc16 => ?_) (fun hc16 => ?_)
        · replace hf := ea_if_t hc16 hf
          refine lv_iconst (v := (-1 : Int32)) C.1 C.2.1 dX10_told_126 (by decide) ?_
          exact ea_iret C hw hf dX10_told_127
        · replace hf := ea_if_f hc16 hf
          refine lv_aload_n C.1 C.2.1 dX10_told_117 rfl (lv_at hl 1 rfl) ?_
          refine lv_iload_n C.1 C.2.1 dX10_told_118 rfl (lv_at hl 0 rfl) ?_
          refine lv_bipush (v := 40) C.1 C.2.1 dX10_told_119 (by decide) ?_
          refine lv_isub C.1 C.2.1 dX10_told_121 ?_
          obtain ⟨r18, M19, he17, hf⟩ := ea_ci_s hf
          refine ea_runi2 hw (cl_X10_152 C hw hq2 (As := [.int (x1 - (40 : Int32))]) (rest := []) (mX1_yearsOf (l := l) (E := E) (ids := ids) hX hq2 he17) (by decide) rfl hl.1 rfl (Nat.le_of_ble_eq_true rfl) dX10_told_122 ⟨Nat.le_refl _, Nat.le_refl _⟩) (fun H locs hw => ?_)
          exact ea_iret C hw hf dX10_told_125
      · replace hf := ea_if_f hc12 hf
        refine lv_aload_n C.1 C.2.1 dX10_told_90 rfl (lv_at hl 1 rfl) ?_
        refine gf_X10_149 C hw hq2 dX10_told_91 ?_
        refine lv_iload_n C.1 C.2.1 dX10_told_94 rfl (lv_at hl 0 rfl) ?_
        refine lv_bipush (v := 30) C.1 C.2.1 dX10_told_95 (by decide) ?_
        refine lv_isub C.1 C.2.1 dX10_told_97 ?_
        obtain ⟨hc20, hf⟩ := ea_ck_s hf
        refine ea_iald C hw (ok_1_13 hq2) hc20 dX10_told_98 ?_
        exact ea_iret C hw hf dX10_told_99
    · replace hf := ea_if_f hc8 hf
      refine lv_aload_n C.1 C.2.1 dX10_told_63 rfl (lv_at hl 1 rfl) ?_
      refine gf_X10_143 C hw hq2 dX10_told_64 ?_
      refine lv_iload_n C.1 C.2.1 dX10_told_67 rfl (lv_at hl 0 rfl) ?_
      refine lv_bipush (v := 20) C.1 C.2.1 dX10_told_68 (by decide) ?_
      refine lv_isub C.1 C.2.1 dX10_told_70 ?_
      obtain ⟨hc21, hf⟩ := ea_ck_s hf
      refine ea_iald C hw (ok_1_7 hq2) hc21 dX10_told_71 ?_
      exact ea_iret C hw hf dX10_told_72
  · replace hf := ea_if_f hc4 hf
    refine lv_aload_n C.1 C.2.1 dX10_told_36 rfl (lv_at hl 1 rfl) ?_
    refine gf_X10_137 C hw hq2 dX10_told_37 ?_
    refine lv_iload_n C.1 C.2.1 dX10_told_40 rfl (lv_at hl 0 rfl) ?_
    refine lv_bipush (v := 10) C.1 C.2.1 dX10_told_41 (by decide) ?_
    refine lv_isub C.1 C.2.1 dX10_told_43 ?_
    obtain ⟨hc22, hf⟩ := ea_ck_s hf
    refine ea_iald C hw (ok_1_5 hq2) hc22 dX10_told_44 ?_
    exact ea_iret C hw hf dX10_told_45
set_option maxHeartbeats 4000000 in
set_option maxRecDepth 20000 in
theorem wX10_told_0 (C : ea_C p s m args meth cd cX10_told 3 (some .int) RX10) (hX : ea_X ids) : ∀ (x1 : Int32) (M : eM) (H : Heap) (locs : List Loc) (ls : Array Slot), fX10_told_0 x1 M = some res → ea_w E ids M s H locs → lv_has ls 3 [(0, .ref (E.1 0)), (1, .int x1)] → W p l e (ea_rm 2 44) s m args below meth cd H locs 0 0 (MQ below (ea_Qi E ids res) args s 0 0 (ea_Ad E ids)) (F0 m 0 ls []) := by
  intro x1 M H locs ls hf  hw hl
  replace hf := (fX10_told_0.eq_1 ..).symm.trans hf
  refine lv_aload_n C.1 C.2.1 dX10_told_0 rfl (lv_at hl 0 rfl) ?_
  refine gf_X10_24 C hw (hX 0 10 rfl) dX10_told_1 ?_
  refine gf_X10_110 C hw (hX 4 9 rfl) dX10_told_4 ?_
  obtain ⟨hc1, hf⟩ := ea_ck_s hf
  obtain ⟨y2, ey3, hf⟩ := ea_lt_s hf
  refine ea_topr ey3 ?_
  have ho_y2 : ea_ok ids y2 1 := by rw [← ey3]; exact (ea_dyn hX hc1)
  refine lv_astore_n (lv' := [(2, .ref (E.1 y2)), (0, .ref (E.1 0)), (1, .int x1)]) C.1 C.2.1 dX10_told_7 rfl hl (by decide) rfl (fun ls hl => ?_)
  refine lv_iload_n C.1 C.2.1 dX10_told_8 rfl (lv_at hl 2 rfl) ?_
  refine lv_if_lt (tgt := 24) C.1 C.2.1 dX10_told_9 (by decide) (fun hc4 => ?_) (fun hc4 => ?_)
  · replace hf := ea_if_t hc4 hf
    exact wX10_told_24 C hX _ _ _ _ _ _ hf ho_y2 hw (lv_sub hl [2, 0] rfl)
  · replace hf := ea_if_f hc4 hf
    refine lv_iload_n C.1 C.2.1 dX10_told_12 rfl (lv_at hl 2 rfl) ?_
    refine lv_bipush (v := 10) C.1 C.2.1 dX10_told_13 (by decide) ?_
    refine lv_icmp_ge (tgt := 24) C.1 C.2.1 dX10_told_15 (by decide) (fun hc5 => ?_) (fun hc5 => ?_)
    · replace hf := ea_if_t hc5 hf
      exact wX10_told_24 C hX _ _ _ _ _ _ hf ho_y2 hw (lv_sub hl [2, 0] rfl)
    · replace hf := ea_if_f hc5 hf
      refine lv_aload_n C.1 C.2.1 dX10_told_18 rfl (lv_at hl 0 rfl) ?_
      refine lv_iload_n C.1 C.2.1 dX10_told_19 rfl (lv_at hl 2 rfl) ?_
      obtain ⟨r7, M8, he6, hf⟩ := ea_ci_s hf
      refine ea_runi2 hw (cl_X10_129 C hw ho_y2 (As := [.int x1]) (rest := []) (mX1_numberTold (l := l) (E := E) (ids := ids) hX ho_y2 he6) (by decide) rfl hl.1 rfl (Nat.le_of_ble_eq_true rfl) dX10_told_20 ⟨Nat.le_refl _, Nat.le_refl _⟩) (fun H locs hw => ?_)
      exact ea_iret C hw hf dX10_told_23
set_option maxHeartbeats 4000000 in
set_option maxRecDepth 20000 in
theorem mX10_told {l : Launch} {E : eE} {ids : List Nat} (hX : ea_X ids) {x1 : Int32} {M : eM} {res : Int32 × eM} (hf : fX10_told x1 M = some res) : ea_Mi l yX10_told cX10_told 3 (some .int) 2 44 E ids [.ref (E.1 0), .int x1] M res := by
  refine ea_goi (by decide) (Nat.le_of_ble_eq_true rfl) wc_X10_told ?_
  intro p e s m below meth cd ls C hw hl
  exact wX10_told_0 C hX _ _ _ _ _ hf hw hl
end SX10_told

def fX10_vat_147 (k58 : Int32 → Int32 → Int32 → Int32 → eM → Option (Int32 × eM)) (x5 : Int32) (x6 : Int32) (x8 : Int32) (t0 : Int32) (t1 : Int32) (M : eM) : Option (Int32 × eM) := k58 x5 x6 (t1 + t0) (x8 + (1 : Int32)) M
def fX10_vat_142 (k58 : Int32 → Int32 → Int32 → Int32 → eM → Option (Int32 × eM)) (x5 : Int32) (x6 : Int32) (x8 : Int32) (t0 : Int32) (M : eM) : Option (Int32 × eM) := fX10_vat_147 k58 x5 x6 x8 (1 : Int32) t0 M
def fX10_vat_127 (k58 : Int32 → Int32 → Int32 → Int32 → eM → Option (Int32 × eM)) (x5 : Int32) (x7 : Int32) (x8 : Int32) (x9 : Int32) (x10 : Int32) (t0 : Int32) (t1 : Int32) (M : eM) : Option (Int32 × eM) := if x9 = 0 then (if x10 = 0 then (fX10_vat_147 k58 x5 (t1 + t0) x8 (0 : Int32) x7 M) else (fX10_vat_142 k58 x5 (t1 + t0) x8 x7 M)) else (fX10_vat_142 k58 x5 (t1 + t0) x8 x7 M)
def fX10_vat_126 (k58 : Int32 → Int32 → Int32 → Int32 → eM → Option (Int32 × eM)) (x5 : Int32) (x7 : Int32) (x8 : Int32) (x9 : Int32) (x10 : Int32) (t0 : Int32) (M : eM) : Option (Int32 × eM) := fX10_vat_127 k58 x5 x7 x8 x9 x10 (0 : Int32) t0 M
def fX10_vat_108 (k58 : Int32 → Int32 → Int32 → Int32 → eM → Option (Int32 × eM)) (x5 : Int32) (x6 : Int32) (x7 : Int32) (x8 : Int32) (x9 : Int32) (t0 : Int32) (M : eM) : Option (Int32 × eM) := if x9 = 0 then (fX10_vat_126 k58 x5 x7 x8 x9 t0 x6 M) else (if t0 = 0 then (fX10_vat_126 k58 x5 x7 x8 x9 t0 x6 M) else (fX10_vat_127 k58 x5 x7 x8 x9 t0 (1 : Int32) x6 M))
def fX10_vat_88 (k58 : Int32 → Int32 → Int32 → Int32 → eM → Option (Int32 × eM)) (x5 : Int32) (x6 : Int32) (x7 : Int32) (x8 : Int32) (t0 : Int32) (M : eM) : Option (Int32 × eM) := ea_ck (ea_ix x8 (ea_len 63)) (if (M.1 63 x8.toNatClampNeg) = 0 then (fX10_vat_108 k58 x5 x6 x7 x8 t0 (0 : Int32) M) else (fX10_vat_108 k58 x5 x6 x7 x8 t0 (1 : Int32) M))
def fX10_vat_58 (k156 : Int32 → Int32 → Int32 → eM → Option (Int32 × eM)) : Nat → Int32 → Int32 → Int32 → Int32 → eM → Option (Int32 × eM)
  | 0, _, _, _, _, _ => none
  | n + 1, x5, x6, x7, x8, M => if (M.1 4 1) ≤ x8 then (k156 x5 x6 x7 M) else (ea_ck (ea_ix x8 (ea_len 53)) (if (M.1 53 x8.toNatClampNeg) = 0 then (fX10_vat_88 (fX10_vat_58 k156 n) x5 x6 x7 x8 (0 : Int32) M) else (fX10_vat_88 (fX10_vat_58 k156 n) x5 x6 x7 x8 (1 : Int32) M)))
def fX10_vat_156 (x5 : Int32) (x6 : Int32) (x7 : Int32) (M : eM) : Option (Int32 × eM) := if x6 = 0 then (if x5 = 0 then (some ((0 : Int32), M)) else (some ((1 : Int32), M))) else (ea_ci (fX10_commonDivisor x6 x7 M) (fun r3 M4 => if x5 = 0 then (ea_ck (ea_nz r3) (some (x6 / r3, M4))) else (ea_ck (ea_nz r3) (some (x7 / r3, M4)))))
def fX10_vat_0 (x1 : Int32) (x2 : Int32) (x3 : Int32) (x4 : Int32) (x5 : Int32) (M : eM) : Option (Int32 × eM) := ea_ci (fX10_mayFit x1 x3 x4 M) (fun r2 M3 => if r2 = 0 then (some ((-2 : Int32), M3)) else (ea_ci (fX10_isCell x2 M3) (fun r6 M7 => if r6 = 0 then (some ((-2 : Int32), M7)) else (if x1 = x2 then (some ((-2 : Int32), M7)) else (ea_cv (fX3_find 50 x1 x3 x4 M7) (fun M11 => ea_cv (fX3_find 60 x2 x3 x4 M11) (fun M13 => fX10_vat_58 (fX10_vat_156) ea_N x5 (0 : Int32) (0 : Int32) (0 : Int32) M13)))))))
def fX10_vat (x1 : Int32) (x2 : Int32) (x3 : Int32) (x4 : Int32) (x5 : Int32) (M : eM) : Option (Int32 × eM) := fX10_vat_0 x1 x2 x3 x4 x5 M
section SX10_vat
variable {p : Program} {l : Launch} {e : Env} {s : State} {m : MethodId} {args : Array Value} {below : List Frame} {meth : Method} {cd : Code} {E : eE} {ids : List Nat} {res : Int32 × eM}
set_option maxHeartbeats 4000000 in
set_option maxRecDepth 20000 in
theorem wX10_vat_147 (C : ea_C p s m args meth cd cX10_vat 11 (some .int) RX10) (hX : ea_X ids) {k58 : Int32 → Int32 → Int32 → Int32 → eM → Option (Int32 × eM)} (hk58 : ∀ (x5 : Int32) (x6 : Int32) (x7 : Int32) (x8 : Int32) (M : eM) (H : Heap) (locs : List Loc) (ls : Array Slot), k58 x5 x6 x7 x8 M = some res → ea_w E ids M s H locs → lv_has ls 11 [(0, .ref (E.1 0)), (5, .int x5), (6, .int x6), (7, .int x7), (8, .int x8)] → W p l e (ea_rm 4 103) s m args below meth cd H locs 0 0 (MQ below (ea_Qi E ids res) args s 0 0 (ea_Ad E ids)) (F0 m 58 ls [])) : ∀ (x5 : Int32) (x6 : Int32) (x8 : Int32) (t0 : Int32) (t1 : Int32) (M : eM) (H : Heap) (locs : List Loc) (ls : Array Slot), fX10_vat_147 k58 x5 x6 x8 t0 t1 M = some res → ea_w E ids M s H locs → lv_has ls 11 [(0, .ref (E.1 0)), (5, .int x5), (6, .int x6), (8, .int x8)] → W p l e (ea_rm 4 103) s m args below meth cd H locs 0 0 (MQ below (ea_Qi E ids res) args s 0 0 (ea_Ad E ids)) (F0 m 147 ls [.int t0, .int t1]) := by
  intro x5 x6 x8 t0 t1 M H locs ls hf  hw hl
  replace hf := (fX10_vat_147.eq_1 ..).symm.trans hf
  refine lv_iadd C.1 C.2.1 dX10_vat_147 ?_
  refine lv_istore (lv' := [(7, .int (t1 + t0)), (0, .ref (E.1 0)), (5, .int x5), (6, .int x6), (8, .int x8)]) C.1 C.2.1 dX10_vat_148 hl (by decide) rfl (fun ls hl => ?_)
  refine lv_iinc (v := x8 + (1 : Int32)) (lv' := [(8, .int (x8 + (1 : Int32))), (7, .int (t1 + t0)), (0, .ref (E.1 0)), (5, .int x5), (6, .int x6)]) C.1 C.2.1 dX10_vat_150 hl (k := 4) rfl rfl (by decide) rfl (fun ls hl => ?_)
  refine lv_goto (tgt := 58) C.1 C.2.1 dX10_vat_153 (by decide) ?_
  exact hk58 _ _ _ _ _ _ _ _ hf hw (lv_sub hl [2, 3, 4, 1, 0] rfl)
set_option maxHeartbeats 4000000 in
set_option maxRecDepth 20000 in
theorem wX10_vat_142 (C : ea_C p s m args meth cd cX10_vat 11 (some .int) RX10) (hX : ea_X ids) {k58 : Int32 → Int32 → Int32 → Int32 → eM → Option (Int32 × eM)} (hk58 : ∀ (x5 : Int32) (x6 : Int32) (x7 : Int32) (x8 : Int32) (M : eM) (H : Heap) (locs : List Loc) (ls : Array Slot), k58 x5 x6 x7 x8 M = some res → ea_w E ids M s H locs → lv_has ls 11 [(0, .ref (E.1 0)), (5, .int x5), (6, .int x6), (7, .int x7), (8, .int x8)] → W p l e (ea_rm 4 103) s m args below meth cd H locs 0 0 (MQ below (ea_Qi E ids res) args s 0 0 (ea_Ad E ids)) (F0 m 58 ls [])) : ∀ (x5 : Int32) (x6 : Int32) (x8 : Int32) (t0 : Int32) (M : eM) (H : Heap) (locs : List Loc) (ls : Array Slot), fX10_vat_142 k58 x5 x6 x8 t0 M = some res → ea_w E ids M s H locs → lv_has ls 11 [(0, .ref (E.1 0)), (5, .int x5), (6, .int x6), (8, .int x8)] → W p l e (ea_rm 4 103) s m args below meth cd H locs 0 0 (MQ below (ea_Qi E ids res) args s 0 0 (ea_Ad E ids)) (F0 m 142 ls [.int t0]) := by
  intro x5 x6 x8 t0 M H locs ls hf  hw hl
  replace hf := (fX10_vat_142.eq_1 ..).symm.trans hf
  refine lv_iconst (v := 1) C.1 C.2.1 dX10_vat_142 (by decide) ?_
  refine lv_goto (tgt := 147) C.1 C.2.1 dX10_vat_143 (by decide) ?_
  exact wX10_vat_147 C hX hk58 _ _ _ _ _ _ _ _ _ hf hw (lv_sub hl [0, 1, 2, 3] rfl)
set_option maxHeartbeats 4000000 in
set_option maxRecDepth 20000 in
theorem wX10_vat_127 (C : ea_C p s m args meth cd cX10_vat 11 (some .int) RX10) (hX : ea_X ids) {k58 : Int32 → Int32 → Int32 → Int32 → eM → Option (Int32 × eM)} (hk58 : ∀ (x5 : Int32) (x6 : Int32) (x7 : Int32) (x8 : Int32) (M : eM) (H : Heap) (locs : List Loc) (ls : Array Slot), k58 x5 x6 x7 x8 M = some res → ea_w E ids M s H locs → lv_has ls 11 [(0, .ref (E.1 0)), (5, .int x5), (6, .int x6), (7, .int x7), (8, .int x8)] → W p l e (ea_rm 4 103) s m args below meth cd H locs 0 0 (MQ below (ea_Qi E ids res) args s 0 0 (ea_Ad E ids)) (F0 m 58 ls [])) : ∀ (x5 : Int32) (x7 : Int32) (x8 : Int32) (x9 : Int32) (x10 : Int32) (t0 : Int32) (t1 : Int32) (M : eM) (H : Heap) (locs : List Loc) (ls : Array Slot), fX10_vat_127 k58 x5 x7 x8 x9 x10 t0 t1 M = some res → ea_w E ids M s H locs → lv_has ls 11 [(0, .ref (E.1 0)), (5, .int x5), (7, .int x7), (8, .int x8), (9, .int x9), (10, .int x10)] → W p l e (ea_rm 4 103) s m args below meth cd H locs 0 0 (MQ below (ea_Qi E ids res) args s 0 0 (ea_Ad E ids)) (F0 m 127 ls [.int t0, .int t1]) := by
  intro x5 x7 x8 x9 x10 t0 t1 M H locs ls hf  hw hl
  replace hf := (fX10_vat_127.eq_1 ..).symm.trans hf
  refine lv_iadd C.1 C.2.1 dX10_vat_127 ?_
  refine lv_istore (lv' := [(6, .int (t1 + t0)), (0, .ref (E.1 0)), (5, .int x5), (7, .int x7), (8, .int x8), (9, .int x9), (10, .int x10)]) C.1 C.2.1 dX10_vat_128 hl (by decide) rfl (fun ls hl => ?_)
  refine lv_iload C.1 C.2.1 dX10_vat_130 (lv_at hl 3 rfl) ?_
  refine lv_iload C.1 C.2.1 dX10_vat_132 (lv_at hl 5 rfl) ?_
  refine lv_if_ne (tgt := 142) C.1 C.2.1 dX10_vat_134 (by decide) (fun hc1 => ?_) (fun hc1 => ?_)
  · replace hf := ea_if_f hc1 hf
    exact wX10_vat_142 C hX hk58 _ _ _ _ _ _ _ _ hf hw (lv_sub hl [1, 2, 0, 4] rfl)
  · replace hf := ea_if_t hc1 hf
    refine lv_iload C.1 C.2.1 dX10_vat_137 (lv_at hl 6 rfl) ?_
    refine lv_if_eq (tgt := 146) C.1 C.2.1 dX10_vat_139 (by decide) (fun hc2 => ?_) (fun hc2 => ?_)
    · replace hf := ea_if_t hc2 hf
      refine lv_iconst (v := 0) C.1 C.2.1 dX10_vat_146 (by decide) ?_
      exact wX10_vat_147 C hX hk58 _ _ _ _ _ _ _ _ _ hf hw (lv_sub hl [1, 2, 0, 4] rfl)
    · replace hf := ea_if_f hc2 hf
      exact wX10_vat_142 C hX hk58 _ _ _ _ _ _ _ _ hf hw (lv_sub hl [1, 2, 0, 4] rfl)
set_option maxHeartbeats 4000000 in
set_option maxRecDepth 20000 in
theorem wX10_vat_126 (C : ea_C p s m args meth cd cX10_vat 11 (some .int) RX10) (hX : ea_X ids) {k58 : Int32 → Int32 → Int32 → Int32 → eM → Option (Int32 × eM)} (hk58 : ∀ (x5 : Int32) (x6 : Int32) (x7 : Int32) (x8 : Int32) (M : eM) (H : Heap) (locs : List Loc) (ls : Array Slot), k58 x5 x6 x7 x8 M = some res → ea_w E ids M s H locs → lv_has ls 11 [(0, .ref (E.1 0)), (5, .int x5), (6, .int x6), (7, .int x7), (8, .int x8)] → W p l e (ea_rm 4 103) s m args below meth cd H locs 0 0 (MQ below (ea_Qi E ids res) args s 0 0 (ea_Ad E ids)) (F0 m 58 ls [])) : ∀ (x5 : Int32) (x7 : Int32) (x8 : Int32) (x9 : Int32) (x10 : Int32) (t0 : Int32) (M : eM) (H : Heap) (locs : List Loc) (ls : Array Slot), fX10_vat_126 k58 x5 x7 x8 x9 x10 t0 M = some res → ea_w E ids M s H locs → lv_has ls 11 [(0, .ref (E.1 0)), (5, .int x5), (7, .int x7), (8, .int x8), (9, .int x9), (10, .int x10)] → W p l e (ea_rm 4 103) s m args below meth cd H locs 0 0 (MQ below (ea_Qi E ids res) args s 0 0 (ea_Ad E ids)) (F0 m 126 ls [.int t0]) := by
  intro x5 x7 x8 x9 x10 t0 M H locs ls hf  hw hl
  replace hf := (fX10_vat_126.eq_1 ..).symm.trans hf
  refine lv_iconst (v := 0) C.1 C.2.1 dX10_vat_126 (by decide) ?_
  exact wX10_vat_127 C hX hk58 _ _ _ _ _ _ _ _ _ _ _ hf hw (lv_sub hl [0, 1, 2, 3, 4, 5] rfl)
set_option maxHeartbeats 4000000 in
set_option maxRecDepth 20000 in
theorem wX10_vat_108 (C : ea_C p s m args meth cd cX10_vat 11 (some .int) RX10) (hX : ea_X ids) {k58 : Int32 → Int32 → Int32 → Int32 → eM → Option (Int32 × eM)} (hk58 : ∀ (x5 : Int32) (x6 : Int32) (x7 : Int32) (x8 : Int32) (M : eM) (H : Heap) (locs : List Loc) (ls : Array Slot), k58 x5 x6 x7 x8 M = some res → ea_w E ids M s H locs → lv_has ls 11 [(0, .ref (E.1 0)), (5, .int x5), (6, .int x6), (7, .int x7), (8, .int x8)] → W p l e (ea_rm 4 103) s m args below meth cd H locs 0 0 (MQ below (ea_Qi E ids res) args s 0 0 (ea_Ad E ids)) (F0 m 58 ls [])) : ∀ (x5 : Int32) (x6 : Int32) (x7 : Int32) (x8 : Int32) (x9 : Int32) (t0 : Int32) (M : eM) (H : Heap) (locs : List Loc) (ls : Array Slot), fX10_vat_108 k58 x5 x6 x7 x8 x9 t0 M = some res → ea_w E ids M s H locs → lv_has ls 11 [(0, .ref (E.1 0)), (5, .int x5), (6, .int x6), (7, .int x7), (8, .int x8), (9, .int x9)] → W p l e (ea_rm 4 103) s m args below meth cd H locs 0 0 (MQ below (ea_Qi E ids res) args s 0 0 (ea_Ad E ids)) (F0 m 108 ls [.int t0]) := by
  intro x5 x6 x7 x8 x9 t0 M H locs ls hf  hw hl
  replace hf := (fX10_vat_108.eq_1 ..).symm.trans hf
  refine lv_istore (lv' := [(10, .int t0), (0, .ref (E.1 0)), (5, .int x5), (6, .int x6), (7, .int x7), (8, .int x8), (9, .int x9)]) C.1 C.2.1 dX10_vat_108 hl (by decide) rfl (fun ls hl => ?_)
  refine lv_iload C.1 C.2.1 dX10_vat_110 (lv_at hl 3 rfl) ?_
  refine lv_iload C.1 C.2.1 dX10_vat_112 (lv_at hl 6 rfl) ?_
  refine lv_if_eq (tgt := 126) C.1 C.2.1 dX10_vat_114 (by decide) (fun hc1 => ?_) (fun hc1 => ?_)
  · replace hf := ea_if_t hc1 hf
    exact wX10_vat_126 C hX hk58 _ _ _ _ _ _ _ _ _ _ hf hw (lv_sub hl [1, 2, 4, 5, 6, 0] rfl)
  · replace hf := ea_if_f hc1 hf
    refine lv_iload C.1 C.2.1 dX10_vat_117 (lv_at hl 0 rfl) ?_
    refine lv_if_eq (tgt := 126) C.1 C.2.1 dX10_vat_119 (by decide) (fun hc2 => ?_) (fun hc2 => ?_)
    · replace hf := ea_if_t hc2 hf
      exact wX10_vat_126 C hX hk58 _ _ _ _ _ _ _ _ _ _ hf hw (lv_sub hl [1, 2, 4, 5, 6, 0] rfl)
    · replace hf := ea_if_f hc2 hf
      refine lv_iconst (v := 1) C.1 C.2.1 dX10_vat_122 (by decide) ?_
      refine lv_goto (tgt := 127) C.1 C.2.1 dX10_vat_123 (by decide) ?_
      exact wX10_vat_127 C hX hk58 _ _ _ _ _ _ _ _ _ _ _ hf hw (lv_sub hl [1, 2, 4, 5, 6, 0] rfl)
set_option maxHeartbeats 4000000 in
set_option maxRecDepth 20000 in
theorem wX10_vat_88 (C : ea_C p s m args meth cd cX10_vat 11 (some .int) RX10) (hX : ea_X ids) {k58 : Int32 → Int32 → Int32 → Int32 → eM → Option (Int32 × eM)} (hk58 : ∀ (x5 : Int32) (x6 : Int32) (x7 : Int32) (x8 : Int32) (M : eM) (H : Heap) (locs : List Loc) (ls : Array Slot), k58 x5 x6 x7 x8 M = some res → ea_w E ids M s H locs → lv_has ls 11 [(0, .ref (E.1 0)), (5, .int x5), (6, .int x6), (7, .int x7), (8, .int x8)] → W p l e (ea_rm 4 103) s m args below meth cd H locs 0 0 (MQ below (ea_Qi E ids res) args s 0 0 (ea_Ad E ids)) (F0 m 58 ls [])) : ∀ (x5 : Int32) (x6 : Int32) (x7 : Int32) (x8 : Int32) (t0 : Int32) (M : eM) (H : Heap) (locs : List Loc) (ls : Array Slot), fX10_vat_88 k58 x5 x6 x7 x8 t0 M = some res → ea_w E ids M s H locs → lv_has ls 11 [(0, .ref (E.1 0)), (5, .int x5), (6, .int x6), (7, .int x7), (8, .int x8)] → W p l e (ea_rm 4 103) s m args below meth cd H locs 0 0 (MQ below (ea_Qi E ids res) args s 0 0 (ea_Ad E ids)) (F0 m 88 ls [.int t0]) := by
  intro x5 x6 x7 x8 t0 M H locs ls hf  hw hl
  replace hf := (fX10_vat_88.eq_1 ..).symm.trans hf
  refine lv_istore (lv' := [(9, .int t0), (0, .ref (E.1 0)), (5, .int x5), (6, .int x6), (7, .int x7), (8, .int x8)]) C.1 C.2.1 dX10_vat_88 hl (by decide) rfl (fun ls hl => ?_)
  refine lv_aload_n C.1 C.2.1 dX10_vat_90 rfl (lv_at hl 1 rfl) ?_
  refine gf_X10_61 C hw (hX 0 10 rfl) dX10_vat_91 ?_
  refine gf_X10_290 C hw (hX 60 3 rfl) dX10_vat_94 ?_
  refine W.eq (g2 := F0 m 97 ls [.ref (E.1 63)]) rfl ?_
  refine lv_iload C.1 C.2.1 dX10_vat_97 (lv_at hl 5 rfl) ?_
  obtain ⟨hc1, hf⟩ := ea_ck_s hf
  refine ea_iald C hw (show ea_ok ids 63 20 from ok_3_3 (hX 60 3 rfl)) hc1 dX10_vat_99 ?_
  refine lv_if_eq (tgt := 107) C.1 C.2.1 dX10_vat_100 (by decide) (fun hc2 => ?_) (fun hc2 => ?_)
  · replace hf := ea_if_t hc2 hf
    refine lv_iconst (v := 0) C.1 C.2.1 dX10_vat_107 (by decide) ?_
    exact wX10_vat_108 C hX hk58 _ _ _ _ _ _ _ _ _ _ hf hw (lv_sub hl [1, 2, 3, 4, 5, 0] rfl)
  · replace hf := ea_if_f hc2 hf
    refine lv_iconst (v := 1) C.1 C.2.1 dX10_vat_103 (by decide) ?_
    refine lv_goto (tgt := 108) C.1 C.2.1 dX10_vat_104 (by decide) ?_
    exact wX10_vat_108 C hX hk58 _ _ _ _ _ _ _ _ _ _ hf hw (lv_sub hl [1, 2, 3, 4, 5, 0] rfl)
set_option maxHeartbeats 4000000 in
set_option maxRecDepth 20000 in
theorem wX10_vat_58 (C : ea_C p s m args meth cd cX10_vat 11 (some .int) RX10) (hX : ea_X ids) {k156 : Int32 → Int32 → Int32 → eM → Option (Int32 × eM)} (hk156 : ∀ (x5 : Int32) (x6 : Int32) (x7 : Int32) (M : eM) (H : Heap) (locs : List Loc) (ls : Array Slot), k156 x5 x6 x7 M = some res → ea_w E ids M s H locs → lv_has ls 11 [(5, .int x5), (6, .int x6), (7, .int x7)] → W p l e (ea_rm 4 103) s m args below meth cd H locs 0 0 (MQ below (ea_Qi E ids res) args s 0 0 (ea_Ad E ids)) (F0 m 156 ls [])) : ∀ (n : Nat) (x5 : Int32) (x6 : Int32) (x7 : Int32) (x8 : Int32) (M : eM) (H : Heap) (locs : List Loc) (ls : Array Slot), fX10_vat_58 k156 n x5 x6 x7 x8 M = some res → ea_w E ids M s H locs → lv_has ls 11 [(0, .ref (E.1 0)), (5, .int x5), (6, .int x6), (7, .int x7), (8, .int x8)] → W p l e (ea_rm 4 103) s m args below meth cd H locs 0 0 (MQ below (ea_Qi E ids res) args s 0 0 (ea_Ad E ids)) (F0 m 58 ls []) := by
  intro n
  induction n with
  | zero => intro x5 x6 x7 x8 M H locs ls hf; cases hf
  | succ n ih =>
    intro x5 x6 x7 x8 M H locs ls hf  hw hl
    replace hf := (fX10_vat_58.eq_2 ..).symm.trans hf
    refine lv_iload C.1 C.2.1 dX10_vat_58 (lv_at hl 4 rfl) ?_
    refine lv_aload_n C.1 C.2.1 dX10_vat_60 rfl (lv_at hl 0 rfl) ?_
    refine gf_X10_24 C hw (hX 0 10 rfl) dX10_vat_61 ?_
    refine gf_X10_289 C hw (hX 4 9 rfl) dX10_vat_64 ?_
    refine lv_icmp_ge (tgt := 156) C.1 C.2.1 dX10_vat_67 (by decide) (fun hc1 => ?_) (fun hc1 => ?_)
    · replace hf := ea_if_t hc1 hf
      exact hk156 _ _ _ _ _ _ _ hf hw (lv_sub hl [1, 2, 3] rfl)
    · replace hf := ea_if_f hc1 hf
      refine lv_aload_n C.1 C.2.1 dX10_vat_70 rfl (lv_at hl 0 rfl) ?_
      refine gf_X10_57 C hw (hX 0 10 rfl) dX10_vat_71 ?_
      refine gf_X10_290 C hw (hX 50 3 rfl) dX10_vat_74 ?_
      refine W.eq (g2 := F0 m 77 ls [.ref (E.1 53)]) rfl ?_
      refine lv_iload C.1 C.2.1 dX10_vat_77 (lv_at hl 4 rfl) ?_
      obtain ⟨hc2, hf⟩ := ea_ck_s hf
      refine ea_iald C hw (show ea_ok ids 53 20 from ok_3_3 (hX 50 3 rfl)) hc2 dX10_vat_79 ?_
      refine lv_if_eq (tgt := 87) C.1 C.2.1 dX10_vat_80 (by decide) (fun hc3 => ?_) (fun hc3 => ?_)
      · replace hf := ea_if_t hc3 hf
        refine lv_iconst (v := 0) C.1 C.2.1 dX10_vat_87 (by decide) ?_
        exact wX10_vat_88 C hX ih _ _ _ _ _ _ _ _ _ hf hw (lv_sub hl [0, 1, 2, 3, 4] rfl)
      · replace hf := ea_if_f hc3 hf
        refine lv_iconst (v := 1) C.1 C.2.1 dX10_vat_83 (by decide) ?_
        refine lv_goto (tgt := 88) C.1 C.2.1 dX10_vat_84 (by decide) ?_
        exact wX10_vat_88 C hX ih _ _ _ _ _ _ _ _ _ hf hw (lv_sub hl [0, 1, 2, 3, 4] rfl)
set_option maxHeartbeats 4000000 in
set_option maxRecDepth 20000 in
theorem wX10_vat_156 (C : ea_C p s m args meth cd cX10_vat 11 (some .int) RX10) (hX : ea_X ids) : ∀ (x5 : Int32) (x6 : Int32) (x7 : Int32) (M : eM) (H : Heap) (locs : List Loc) (ls : Array Slot), fX10_vat_156 x5 x6 x7 M = some res → ea_w E ids M s H locs → lv_has ls 11 [(5, .int x5), (6, .int x6), (7, .int x7)] → W p l e (ea_rm 4 103) s m args below meth cd H locs 0 0 (MQ below (ea_Qi E ids res) args s 0 0 (ea_Ad E ids)) (F0 m 156 ls []) := by
  intro x5 x6 x7 M H locs ls hf  hw hl
  replace hf := (fX10_vat_156.eq_1 ..).symm.trans hf
  refine lv_iload C.1 C.2.1 dX10_vat_156 (lv_at hl 1 rfl) ?_
  refine lv_if_ne (tgt := 172) C.1 C.2.1 dX10_vat_158 (by decide) (fun hc1 => ?_) (fun hc1 => ?_)
  · replace hf := ea_if_f hc1 hf
    refine lv_iload C.1 C.2.1 dX10_vat_172 (lv_at hl 1 rfl) ?_
    refine lv_iload C.1 C.2.1 dX10_vat_174 (lv_at hl 2 rfl) ?_
    obtain ⟨r3, M4, he2, hf⟩ := ea_ci_s hf
    refine ea_runi2 hw (cl_X10_293 C hw (As := [.int x6, .int x7]) (rest := []) (mX10_commonDivisor (l := l) (E := E) (ids := ids) hX he2) (by decide) rfl hl.1 rfl (Nat.le_of_ble_eq_true rfl) dX10_vat_176 ⟨Nat.le_refl _, Nat.le_refl _⟩) (fun H locs hw => ?_)
    refine lv_istore (lv' := [(8, .int r3), (5, .int x5), (6, .int x6), (7, .int x7)]) C.1 C.2.1 dX10_vat_179 hl (by decide) rfl (fun ls hl => ?_)
    refine lv_iload C.1 C.2.1 dX10_vat_181 (lv_at hl 1 rfl) ?_
    refine lv_if_eq (tgt := 194) C.1 C.2.1 dX10_vat_183 (by decide) (fun hc5 => ?_) (fun hc5 => ?_)
    · replace hf := ea_if_t hc5 hf
      refine lv_iload C.1 C.2.1 dX10_vat_194 (lv_at hl 2 rfl) ?_
      refine lv_iload C.1 C.2.1 dX10_vat_196 (lv_at hl 0 rfl) ?_
      obtain ⟨hc6, hf⟩ := ea_ck_s hf
      refine lv_idiv C.1 C.2.1 dX10_vat_198 (ea_nz_s hc6) ?_
      exact ea_iret C hw hf dX10_vat_199
    · replace hf := ea_if_f hc5 hf
      refine lv_iload C.1 C.2.1 dX10_vat_186 (lv_at hl 3 rfl) ?_
      refine lv_iload C.1 C.2.1 dX10_vat_188 (lv_at hl 0 rfl) ?_
      obtain ⟨hc7, hf⟩ := ea_ck_s hf
      refine lv_idiv C.1 C.2.1 dX10_vat_190 (ea_nz_s hc7) ?_
      refine lv_goto (tgt := 199) C.1 C.2.1 dX10_vat_191 (by decide) ?_
      exact ea_iret C hw hf dX10_vat_199
  · replace hf := ea_if_t hc1 hf
    refine lv_iload C.1 C.2.1 dX10_vat_161 (lv_at hl 0 rfl) ?_
    refine lv_if_eq (tgt := 170) C.1 C.2.1 dX10_vat_163 (by decide) (fun hc8 => ?_) (fun hc8 => ?_)
    · replace hf := ea_if_t hc8 hf
      refine lv_iconst (v := 0) C.1 C.2.1 dX10_vat_170 (by decide) ?_
      exact ea_iret C hw hf dX10_vat_171
    · replace hf := ea_if_f hc8 hf
      refine lv_iconst (v := 1) C.1 C.2.1 dX10_vat_166 (by decide) ?_
      refine lv_goto (tgt := 171) C.1 C.2.1 dX10_vat_167 (by decide) ?_
      exact ea_iret C hw hf dX10_vat_171
set_option maxHeartbeats 4000000 in
set_option maxRecDepth 20000 in
theorem wX10_vat_0 (C : ea_C p s m args meth cd cX10_vat 11 (some .int) RX10) (hX : ea_X ids) : ∀ (x1 : Int32) (x2 : Int32) (x3 : Int32) (x4 : Int32) (x5 : Int32) (M : eM) (H : Heap) (locs : List Loc) (ls : Array Slot), fX10_vat_0 x1 x2 x3 x4 x5 M = some res → ea_w E ids M s H locs → lv_has ls 11 [(0, .ref (E.1 0)), (1, .int x1), (2, .int x2), (3, .int x3), (4, .int x4), (5, .int x5)] → W p l e (ea_rm 4 103) s m args below meth cd H locs 0 0 (MQ below (ea_Qi E ids res) args s 0 0 (ea_Ad E ids)) (F0 m 0 ls []) := by
  intro x1 x2 x3 x4 x5 M H locs ls hf  hw hl
  replace hf := (fX10_vat_0.eq_1 ..).symm.trans hf
  refine lv_aload_n C.1 C.2.1 dX10_vat_0 rfl (lv_at hl 0 rfl) ?_
  refine lv_iload_n C.1 C.2.1 dX10_vat_1 rfl (lv_at hl 1 rfl) ?_
  refine lv_iload_n C.1 C.2.1 dX10_vat_2 rfl (lv_at hl 3 rfl) ?_
  refine lv_iload C.1 C.2.1 dX10_vat_3 (lv_at hl 4 rfl) ?_
  obtain ⟨r2, M3, he1, hf⟩ := ea_ci_s hf
  refine ea_runi2 hw (cl_X10_238 C hw (hX 0 10 rfl) (As := [.int x1, .int x3, .int x4]) (rest := []) (mX10_mayFit (l := l) (E := E) (ids := ids) hX he1) (by decide) rfl hl.1 rfl (Nat.le_of_ble_eq_true rfl) dX10_vat_5 ⟨Nat.le_refl _, Nat.le_refl _⟩) (fun H locs hw => ?_)
  refine lv_if_eq (tgt := 24) C.1 C.2.1 dX10_vat_8 (by decide) (fun hc4 => ?_) (fun hc4 => ?_)
  · replace hf := ea_if_t hc4 hf
    refine lv_bipush (v := (-2 : Int32)) C.1 C.2.1 dX10_vat_24 (by decide) ?_
    exact ea_iret C hw hf dX10_vat_26
  · replace hf := ea_if_f hc4 hf
    refine lv_aload_n C.1 C.2.1 dX10_vat_11 rfl (lv_at hl 0 rfl) ?_
    refine lv_iload_n C.1 C.2.1 dX10_vat_12 rfl (lv_at hl 2 rfl) ?_
    obtain ⟨r6, M7, he5, hf⟩ := ea_ci_s hf
    refine ea_runi2 hw (cl_X10_196 C hw (hX 0 10 rfl) (As := [.int x2]) (rest := []) (mX10_isCell (l := l) (E := E) (ids := ids) hX he5) (by decide) rfl hl.1 rfl (Nat.le_of_ble_eq_true rfl) dX10_vat_13 ⟨Nat.le_refl _, Nat.le_refl _⟩) (fun H locs hw => ?_)
    refine lv_if_eq (tgt := 24) C.1 C.2.1 dX10_vat_16 (by decide) (fun hc8 => ?_) (fun hc8 => ?_)
    · replace hf := ea_if_t hc8 hf
      refine lv_bipush (v := (-2 : Int32)) C.1 C.2.1 dX10_vat_24 (by decide) ?_
      exact ea_iret C hw hf dX10_vat_26
    · replace hf := ea_if_f hc8 hf
      refine lv_iload_n C.1 C.2.1 dX10_vat_19 rfl (lv_at hl 1 rfl) ?_
      refine lv_iload_n C.1 C.2.1 dX10_vat_20 rfl (lv_at hl 2 rfl) ?_
      refine lv_icmp_ne (tgt := 27) C.1 C.2.1 dX10_vat_21 (by decide) (fun hc9 => ?_) (fun hc9 => ?_)
      · replace hf := ea_if_f hc9 hf
        refine lv_aload_n C.1 C.2.1 dX10_vat_27 rfl (lv_at hl 0 rfl) ?_
        refine gf_X10_57 C hw (hX 0 10 rfl) dX10_vat_28 ?_
        refine lv_iload_n C.1 C.2.1 dX10_vat_31 rfl (lv_at hl 1 rfl) ?_
        refine lv_iload_n C.1 C.2.1 dX10_vat_32 rfl (lv_at hl 3 rfl) ?_
        refine lv_iload C.1 C.2.1 dX10_vat_33 (lv_at hl 4 rfl) ?_
        obtain ⟨M11, he10, hf⟩ := ea_cv_s hf
        refine ea_runv hw (cl_X10_241 C hw (hX 50 3 rfl) (As := [.int x1, .int x3, .int x4]) (rest := []) (mX3_find (l := l) (E := E) (ids := ids) hX (hX 50 3 rfl) he10) (by decide) rfl hl.1 rfl (Nat.le_of_ble_eq_true rfl) dX10_vat_35 ⟨Nat.le_refl _, Nat.le_refl _⟩) (fun H locs hw => ?_)
        refine lv_aload_n C.1 C.2.1 dX10_vat_38 rfl (lv_at hl 0 rfl) ?_
        refine gf_X10_61 C hw (hX 0 10 rfl) dX10_vat_39 ?_
        refine lv_iload_n C.1 C.2.1 dX10_vat_42 rfl (lv_at hl 2 rfl) ?_
        refine lv_iload_n C.1 C.2.1 dX10_vat_43 rfl (lv_at hl 3 rfl) ?_
        refine lv_iload C.1 C.2.1 dX10_vat_44 (lv_at hl 4 rfl) ?_
        obtain ⟨M13, he12, hf⟩ := ea_cv_s hf
        refine ea_runv hw (cl_X10_241 C hw (hX 60 3 rfl) (As := [.int x2, .int x3, .int x4]) (rest := []) (mX3_find (l := l) (E := E) (ids := ids) hX (hX 60 3 rfl) he12) (by decide) rfl hl.1 rfl (Nat.le_of_ble_eq_true rfl) dX10_vat_46 ⟨Nat.le_refl _, Nat.le_refl _⟩) (fun H locs hw => ?_)
        refine lv_iconst (v := 0) C.1 C.2.1 dX10_vat_49 (by decide) ?_
        refine lv_istore (lv' := [(6, .int (0 : Int32)), (0, .ref (E.1 0)), (1, .int x1), (2, .int x2), (3, .int x3), (4, .int x4), (5, .int x5)]) C.1 C.2.1 dX10_vat_50 hl (by decide) rfl (fun ls hl => ?_)
        refine lv_iconst (v := 0) C.1 C.2.1 dX10_vat_52 (by decide) ?_
        refine lv_istore (lv' := [(7, .int (0 : Int32)), (6, .int (0 : Int32)), (0, .ref (E.1 0)), (1, .int x1), (2, .int x2), (3, .int x3), (4, .int x4), (5, .int x5)]) C.1 C.2.1 dX10_vat_53 hl (by decide) rfl (fun ls hl => ?_)
        refine lv_iconst (v := 0) C.1 C.2.1 dX10_vat_55 (by decide) ?_
        refine lv_istore (lv' := [(8, .int (0 : Int32)), (7, .int (0 : Int32)), (6, .int (0 : Int32)), (0, .ref (E.1 0)), (1, .int x1), (2, .int x2), (3, .int x3), (4, .int x4), (5, .int x5)]) C.1 C.2.1 dX10_vat_56 hl (by decide) rfl (fun ls hl => ?_)
        exact wX10_vat_58 C hX (wX10_vat_156 C hX) ea_N _ _ _ _ _ _ _ _ hf hw (lv_sub hl [3, 8, 2, 1, 0] rfl)
      · replace hf := ea_if_t hc9 hf
        refine lv_bipush (v := (-2 : Int32)) C.1 C.2.1 dX10_vat_24 (by decide) ?_
        exact ea_iret C hw hf dX10_vat_26
set_option maxHeartbeats 4000000 in
set_option maxRecDepth 20000 in
theorem mX10_vat {l : Launch} {E : eE} {ids : List Nat} (hX : ea_X ids) {x1 : Int32} {x2 : Int32} {x3 : Int32} {x4 : Int32} {x5 : Int32} {M : eM} {res : Int32 × eM} (hf : fX10_vat x1 x2 x3 x4 x5 M = some res) : ea_Mi l yX10_vat cX10_vat 11 (some .int) 4 103 E ids [.ref (E.1 0), .int x1, .int x2, .int x3, .int x4, .int x5] M res := by
  refine ea_goi (by decide) (Nat.le_of_ble_eq_true rfl) wc_X10_vat ?_
  intro p e s m below meth cd ls C hw hl
  exact wX10_vat_0 C hX _ _ _ _ _ _ _ _ _ hf hw hl
end SX10_vat

def fX10_vats_32 (k59 : Int32 → eM → Option (Int32 × eM)) : Nat → Int32 → Int32 → Int32 → Int32 → eM → Option (Int32 × eM)
  | 0, _, _, _, _, _ => none
  | n + 1, x1, x2, x3, x4, M => if x3 ≤ x4 then (k59 x3 M) else (ea_ci (fX10_sureThread x4 x1 x2 M) (fun r3 M4 => ea_ck (ea_ix x4 (ea_len 79)) (fX10_vats_32 k59 n x1 x2 x3 (x4 + (1 : Int32)) (ea_pI M4 79 (x4.toNatClampNeg) r3))))
def fX10_vats_121 (k65 : Int32 → Int32 → Int32 → eM → Option (Int32 × eM)) (x3 : Int32) (x4 : Int32) (x5 : Int32) (M : eM) : Option (Int32 × eM) := k65 x3 x4 (x5 + (1 : Int32)) M
def fX10_vats_65 : Nat → Int32 → Int32 → Int32 → eM → Option (Int32 × eM)
  | 0, _, _, _, _ => none
  | n + 1, x3, x4, x5, M => if x3 ≤ x5 then (some (x4, M)) else (ea_ck (ea_ix x5 (ea_len 79)) (if (M.1 79 x5.toNatClampNeg) = (-1 : Int32) then (fX10_vats_121 (fX10_vats_65 n) x3 x4 x5 M) else (ea_ck (ea_ix x5 (ea_len 79)) (ea_ci (fX10_sureAmong (M.1 79 x5.toNatClampNeg) (0 : Int32) x5 M) (fun r6 M7 => if r6 = 0 then (ea_ck (ea_ix x5 (ea_len 79)) (ea_ci (fX10_sureAmong (M7.1 79 x5.toNatClampNeg) (x5 + (1 : Int32)) x3 M7) (fun r11 M12 => if r11 ≤ 0 then (fX10_vats_121 (fX10_vats_65 n) x3 x4 x5 M12) else (fX10_vats_121 (fX10_vats_65 n) x3 (x4 + (1 : Int32)) x5 M12)))) else (fX10_vats_121 (fX10_vats_65 n) x3 x4 x5 M7))))))
def fX10_vats_59 (x3 : Int32) (M : eM) : Option (Int32 × eM) := fX10_vats_65 ea_N x3 (0 : Int32) (0 : Int32) M
def fX10_vats_0 (x1 : Int32) (x2 : Int32) (M : eM) : Option (Int32 × eM) := ea_ci (fX10_isStory x1 M) (fun r2 M3 => if r2 = 0 then (some ((-2 : Int32), M3)) else (ea_ci (fX10_isStep x2 M3) (fun r6 M7 => if r6 = 0 then (some ((-2 : Int32), M7)) else (ea_ck (ea_is (M7.2.2 4 0) 1) (ea_ci (fX1_cells (M7.2.2 4 0) M7) (fun r11 M12 => fX10_vats_32 (fX10_vats_59) ea_N x1 x2 r11 (0 : Int32) M12))))))
def fX10_vats (x1 : Int32) (x2 : Int32) (M : eM) : Option (Int32 × eM) := fX10_vats_0 x1 x2 M
section SX10_vats
variable {p : Program} {l : Launch} {e : Env} {s : State} {m : MethodId} {args : Array Value} {below : List Frame} {meth : Method} {cd : Code} {E : eE} {ids : List Nat} {res : Int32 × eM}
set_option maxHeartbeats 4000000 in
set_option maxRecDepth 20000 in
theorem wX10_vats_32 (C : ea_C p s m args meth cd cX10_vats 6 (some .int) RX10) (hX : ea_X ids) {k59 : Int32 → eM → Option (Int32 × eM)} (hk59 : ∀ (x3 : Int32) (M : eM) (H : Heap) (locs : List Loc) (ls : Array Slot), k59 x3 M = some res → ea_w E ids M s H locs → lv_has ls 6 [(0, .ref (E.1 0)), (3, .int x3)] → W p l e (ea_rm 5 126) s m args below meth cd H locs 0 0 (MQ below (ea_Qi E ids res) args s 0 0 (ea_Ad E ids)) (F0 m 59 ls [])) : ∀ (n : Nat) (x1 : Int32) (x2 : Int32) (x3 : Int32) (x4 : Int32) (M : eM) (H : Heap) (locs : List Loc) (ls : Array Slot), fX10_vats_32 k59 n x1 x2 x3 x4 M = some res → ea_w E ids M s H locs → lv_has ls 6 [(0, .ref (E.1 0)), (1, .int x1), (2, .int x2), (3, .int x3), (4, .int x4)] → W p l e (ea_rm 5 126) s m args below meth cd H locs 0 0 (MQ below (ea_Qi E ids res) args s 0 0 (ea_Ad E ids)) (F0 m 32 ls []) := by
  intro n
  induction n with
  | zero => intro x1 x2 x3 x4 M H locs ls hf; cases hf
  | succ n ih =>
    intro x1 x2 x3 x4 M H locs ls hf  hw hl
    replace hf := (fX10_vats_32.eq_2 ..).symm.trans hf
    refine lv_iload C.1 C.2.1 dX10_vats_32 (lv_at hl 4 rfl) ?_
    refine lv_iload_n C.1 C.2.1 dX10_vats_34 rfl (lv_at hl 3 rfl) ?_
    refine lv_icmp_ge (tgt := 59) C.1 C.2.1 dX10_vats_35 (by decide) (fun hc1 => ?_) (fun hc1 => ?_)
    · replace hf := ea_if_t hc1 hf
      exact hk59 _ _ _ _ _ hf hw (lv_sub hl [0, 3] rfl)
    · replace hf := ea_if_f hc1 hf
      refine lv_aload_n C.1 C.2.1 dX10_vats_38 rfl (lv_at hl 0 rfl) ?_
      refine gf_X10_85 C hw (hX 0 10 rfl) dX10_vats_39 ?_
      refine lv_iload C.1 C.2.1 dX10_vats_42 (lv_at hl 4 rfl) ?_
      refine lv_aload_n C.1 C.2.1 dX10_vats_44 rfl (lv_at hl 0 rfl) ?_
      refine lv_iload C.1 C.2.1 dX10_vats_45 (lv_at hl 4 rfl) ?_
      refine lv_iload_n C.1 C.2.1 dX10_vats_47 rfl (lv_at hl 1 rfl) ?_
      refine lv_iload_n C.1 C.2.1 dX10_vats_48 rfl (lv_at hl 2 rfl) ?_
      obtain ⟨r3, M4, he2, hf⟩ := ea_ci_s hf
      refine ea_runi2 hw (cl_X10_300 C hw (hX 0 10 rfl) (As := [.int x4, .int x1, .int x2]) (rest := [.int x4, .ref (E.1 79)]) (mX10_sureThread (l := l) (E := E) (ids := ids) hX he2) (by decide) rfl hl.1 rfl (Nat.le_of_ble_eq_true rfl) dX10_vats_49 ⟨Nat.le_refl _, Nat.le_refl _⟩) (fun H locs hw => ?_)
      obtain ⟨hc5, hf⟩ := ea_ck_s hf
      refine ea_iast C hw (hX 79 20 rfl) hc5 dX10_vats_52 (fun H locs hw => ?_)
      refine lv_iinc (v := x4 + (1 : Int32)) (lv' := [(4, .int (x4 + (1 : Int32))), (0, .ref (E.1 0)), (1, .int x1), (2, .int x2), (3, .int x3)]) C.1 C.2.1 dX10_vats_53 hl (k := 4) rfl rfl (by decide) rfl (fun ls hl => ?_)
      refine lv_goto (tgt := 32) C.1 C.2.1 dX10_vats_56 (by decide) ?_
      exact ih _ _ _ _ _ _ _ _ hf hw (lv_sub hl [1, 2, 3, 4, 0] rfl)
set_option maxHeartbeats 4000000 in
set_option maxRecDepth 20000 in
theorem wX10_vats_121 (C : ea_C p s m args meth cd cX10_vats 6 (some .int) RX10) (hX : ea_X ids) {k65 : Int32 → Int32 → Int32 → eM → Option (Int32 × eM)} (hk65 : ∀ (x3 : Int32) (x4 : Int32) (x5 : Int32) (M : eM) (H : Heap) (locs : List Loc) (ls : Array Slot), k65 x3 x4 x5 M = some res → ea_w E ids M s H locs → lv_has ls 6 [(0, .ref (E.1 0)), (3, .int x3), (4, .int x4), (5, .int x5)] → W p l e (ea_rm 5 126) s m args below meth cd H locs 0 0 (MQ below (ea_Qi E ids res) args s 0 0 (ea_Ad E ids)) (F0 m 65 ls [])) : ∀ (x3 : Int32) (x4 : Int32) (x5 : Int32) (M : eM) (H : Heap) (locs : List Loc) (ls : Array Slot), fX10_vats_121 k65 x3 x4 x5 M = some res → ea_w E ids M s H locs → lv_has ls 6 [(0, .ref (E.1 0)), (3, .int x3), (4, .int x4), (5, .int x5)] → W p l e (ea_rm 5 126) s m args below meth cd H locs 0 0 (MQ below (ea_Qi E ids res) args s 0 0 (ea_Ad E ids)) (F0 m 121 ls []) := by
  intro x3 x4 x5 M H locs ls hf  hw hl
  replace hf := (fX10_vats_121.eq_1 ..).symm.trans hf
  refine lv_iinc (v := x5 + (1 : Int32)) (lv' := [(5, .int (x5 + (1 : Int32))), (0, .ref (E.1 0)), (3, .int x3), (4, .int x4)]) C.1 C.2.1 dX10_vats_121 hl (k := 3) rfl rfl (by decide) rfl (fun ls hl => ?_)
  refine lv_goto (tgt := 65) C.1 C.2.1 dX10_vats_124 (by decide) ?_
  exact hk65 _ _ _ _ _ _ _ hf hw (lv_sub hl [1, 2, 3, 0] rfl)
set_option maxHeartbeats 4000000 in
set_option maxRecDepth 20000 in
theorem wX10_vats_65 (C : ea_C p s m args meth cd cX10_vats 6 (some .int) RX10) (hX : ea_X ids) : ∀ (n : Nat) (x3 : Int32) (x4 : Int32) (x5 : Int32) (M : eM) (H : Heap) (locs : List Loc) (ls : Array Slot), fX10_vats_65 n x3 x4 x5 M = some res → ea_w E ids M s H locs → lv_has ls 6 [(0, .ref (E.1 0)), (3, .int x3), (4, .int x4), (5, .int x5)] → W p l e (ea_rm 5 126) s m args below meth cd H locs 0 0 (MQ below (ea_Qi E ids res) args s 0 0 (ea_Ad E ids)) (F0 m 65 ls []) := by
  intro n
  induction n with
  | zero => intro x3 x4 x5 M H locs ls hf; cases hf
  | succ n ih =>
    intro x3 x4 x5 M H locs ls hf  hw hl
    replace hf := (fX10_vats_65.eq_2 ..).symm.trans hf
    refine lv_iload C.1 C.2.1 dX10_vats_65 (lv_at hl 3 rfl) ?_
    refine lv_iload_n C.1 C.2.1 dX10_vats_67 rfl (lv_at hl 1 rfl) ?_
    refine lv_icmp_ge (tgt := 127) C.1 C.2.1 dX10_vats_68 (by decide) (fun hc1 => ?_) (fun hc1 => ?_)
    · replace hf := ea_if_t hc1 hf
      refine lv_iload C.1 C.2.1 dX10_vats_127 (lv_at hl 2 rfl) ?_
      exact ea_iret C hw hf dX10_vats_129
    · replace hf := ea_if_f hc1 hf
      refine lv_aload_n C.1 C.2.1 dX10_vats_71 rfl (lv_at hl 0 rfl) ?_
      refine gf_X10_85 C hw (hX 0 10 rfl) dX10_vats_72 ?_
      refine lv_iload C.1 C.2.1 dX10_vats_75 (lv_at hl 3 rfl) ?_
      obtain ⟨hc2, hf⟩ := ea_ck_s hf
      refine ea_iald C hw (hX 79 20 rfl) hc2 dX10_vats_77 ?_
      refine lv_iconst (v := (-1 : Int32)) C.1 C.2.1 dX10_vats_78 (by decide) ?_
      refine lv_icmp_eq (tgt := 121) C.1 C.2.1 dX10_vats_79 (by decide) (fun hc3 => ?_) (fun hc3 => ?_)
      · replace hf := ea_if_t hc3 hf
        exact wX10_vats_121 C hX ih _ _ _ _ _ _ _ hf hw (lv_sub hl [0, 1, 2, 3] rfl)
      · replace hf := ea_if_f hc3 hf
        refine lv_aload_n C.1 C.2.1 dX10_vats_82 rfl (lv_at hl 0 rfl) ?_
        refine lv_aload_n C.1 C.2.1 dX10_vats_83 rfl (lv_at hl 0 rfl) ?_
        refine gf_X10_85 C hw (hX 0 10 rfl) dX10_vats_84 ?_
        refine lv_iload C.1 C.2.1 dX10_vats_87 (lv_at hl 3 rfl) ?_
        obtain ⟨hc4, hf⟩ := ea_ck_s hf
        refine ea_iald C hw (hX 79 20 rfl) hc4 dX10_vats_89 ?_
        refine lv_iconst (v := 0) C.1 C.2.1 dX10_vats_90 (by decide) ?_
        refine lv_iload C.1 C.2.1 dX10_vats_91 (lv_at hl 3 rfl) ?_
        obtain ⟨r6, M7, he5, hf⟩ := ea_ci_s hf
        refine ea_runi2 hw (cl_X10_303 C hw (hX 0 10 rfl) (As := [.int (M.1 79 x5.toNatClampNeg), .int (0 : Int32), .int x5]) (rest := []) (mX10_sureAmong (l := l) (E := E) (ids := ids) hX he5) (by decide) rfl hl.1 rfl (Nat.le_of_ble_eq_true rfl) dX10_vats_93 ⟨Nat.le_refl _, Nat.le_refl _⟩) (fun H locs hw => ?_)
        refine lv_if_ne (tgt := 121) C.1 C.2.1 dX10_vats_96 (by decide) (fun hc8 => ?_) (fun hc8 => ?_)
        · replace hf := ea_if_f hc8 hf
          exact wX10_vats_121 C hX ih _ _ _ _ _ _ _ hf hw (lv_sub hl [0, 1, 2, 3] rfl)
        · replace hf := ea_if_t hc8 hf
          refine lv_aload_n C.1 C.2.1 dX10_vats_99 rfl (lv_at hl 0 rfl) ?_
          refine lv_aload_n C.1 C.2.1 dX10_vats_100 rfl (lv_at hl 0 rfl) ?_
          refine gf_X10_85 C hw (hX 0 10 rfl) dX10_vats_101 ?_
          refine lv_iload C.1 C.2.1 dX10_vats_104 (lv_at hl 3 rfl) ?_
          obtain ⟨hc9, hf⟩ := ea_ck_s hf
          refine ea_iald C hw (hX 79 20 rfl) hc9 dX10_vats_106 ?_
          refine lv_iload C.1 C.2.1 dX10_vats_107 (lv_at hl 3 rfl) ?_
          refine lv_iconst (v := 1) C.1 C.2.1 dX10_vats_109 (by decide) ?_
          refine lv_iadd C.1 C.2.1 dX10_vats_110 ?_
          refine lv_iload_n C.1 C.2.1 dX10_vats_111 rfl (lv_at hl 1 rfl) ?_
          obtain ⟨r11, M12, he10, hf⟩ := ea_ci_s hf
          refine ea_runi2 hw (cl_X10_303 C hw (hX 0 10 rfl) (As := [.int (M7.1 79 x5.toNatClampNeg), .int (x5 + (1 : Int32)), .int x3]) (rest := []) (mX10_sureAmong (l := l) (E := E) (ids := ids) hX he10) (by decide) rfl hl.1 rfl (Nat.le_of_ble_eq_true rfl) dX10_vats_112 ⟨Nat.le_refl _, Nat.le_refl _⟩) (fun H locs hw => ?_)
          refine lv_if_le (tgt := 121) C.1 C.2.1 dX10_vats_115 (by decide) (fun hc13 => ?_) (fun hc13 => ?_)
          · replace hf := ea_if_t hc13 hf
            exact wX10_vats_121 C hX ih _ _ _ _ _ _ _ hf hw (lv_sub hl [0, 1, 2, 3] rfl)
          · replace hf := ea_if_f hc13 hf
            refine lv_iinc (v := x4 + (1 : Int32)) (lv' := [(4, .int (x4 + (1 : Int32))), (0, .ref (E.1 0)), (3, .int x3), (5, .int x5)]) C.1 C.2.1 dX10_vats_118 hl (k := 2) rfl rfl (by decide) rfl (fun ls hl => ?_)
            exact wX10_vats_121 C hX ih _ _ _ _ _ _ _ hf hw (lv_sub hl [1, 2, 0, 3] rfl)
set_option maxHeartbeats 4000000 in
set_option maxRecDepth 20000 in
theorem wX10_vats_59 (C : ea_C p s m args meth cd cX10_vats 6 (some .int) RX10) (hX : ea_X ids) : ∀ (x3 : Int32) (M : eM) (H : Heap) (locs : List Loc) (ls : Array Slot), fX10_vats_59 x3 M = some res → ea_w E ids M s H locs → lv_has ls 6 [(0, .ref (E.1 0)), (3, .int x3)] → W p l e (ea_rm 5 126) s m args below meth cd H locs 0 0 (MQ below (ea_Qi E ids res) args s 0 0 (ea_Ad E ids)) (F0 m 59 ls []) := by
  intro x3 M H locs ls hf  hw hl
  replace hf := (fX10_vats_59.eq_1 ..).symm.trans hf
  refine lv_iconst (v := 0) C.1 C.2.1 dX10_vats_59 (by decide) ?_
  refine lv_istore (lv' := [(4, .int (0 : Int32)), (0, .ref (E.1 0)), (3, .int x3)]) C.1 C.2.1 dX10_vats_60 hl (by decide) rfl (fun ls hl => ?_)
  refine lv_iconst (v := 0) C.1 C.2.1 dX10_vats_62 (by decide) ?_
  refine lv_istore (lv' := [(5, .int (0 : Int32)), (4, .int (0 : Int32)), (0, .ref (E.1 0)), (3, .int x3)]) C.1 C.2.1 dX10_vats_63 hl (by decide) rfl (fun ls hl => ?_)
  exact wX10_vats_65 C hX ea_N _ _ _ _ _ _ _ hf hw (lv_sub hl [2, 3, 1, 0] rfl)
set_option maxHeartbeats 4000000 in
set_option maxRecDepth 20000 in
theorem wX10_vats_0 (C : ea_C p s m args meth cd cX10_vats 6 (some .int) RX10) (hX : ea_X ids) : ∀ (x1 : Int32) (x2 : Int32) (M : eM) (H : Heap) (locs : List Loc) (ls : Array Slot), fX10_vats_0 x1 x2 M = some res → ea_w E ids M s H locs → lv_has ls 6 [(0, .ref (E.1 0)), (1, .int x1), (2, .int x2)] → W p l e (ea_rm 5 126) s m args below meth cd H locs 0 0 (MQ below (ea_Qi E ids res) args s 0 0 (ea_Ad E ids)) (F0 m 0 ls []) := by
  intro x1 x2 M H locs ls hf  hw hl
  replace hf := (fX10_vats_0.eq_1 ..).symm.trans hf
  refine lv_aload_n C.1 C.2.1 dX10_vats_0 rfl (lv_at hl 0 rfl) ?_
  refine lv_iload_n C.1 C.2.1 dX10_vats_1 rfl (lv_at hl 1 rfl) ?_
  obtain ⟨r2, M3, he1, hf⟩ := ea_ci_s hf
  refine ea_runi2 hw (cl_X10_163 C hw (hX 0 10 rfl) (As := [.int x1]) (rest := []) (mX10_isStory (l := l) (E := E) (ids := ids) hX he1) (by decide) rfl hl.1 rfl (Nat.le_of_ble_eq_true rfl) dX10_vats_2 ⟨Nat.le_refl _, Nat.le_refl _⟩) (fun H locs hw => ?_)
  refine lv_if_eq (tgt := 15) C.1 C.2.1 dX10_vats_5 (by decide) (fun hc4 => ?_) (fun hc4 => ?_)
  · replace hf := ea_if_t hc4 hf
    refine lv_bipush (v := (-2 : Int32)) C.1 C.2.1 dX10_vats_15 (by decide) ?_
    exact ea_iret C hw hf dX10_vats_17
  · replace hf := ea_if_f hc4 hf
    refine lv_iload_n C.1 C.2.1 dX10_vats_8 rfl (lv_at hl 2 rfl) ?_
    obtain ⟨r6, M7, he5, hf⟩ := ea_ci_s hf
    refine ea_runi2 hw (cl_X10_225 C hw (As := [.int x2]) (rest := []) (mX10_isStep (l := l) (E := E) (ids := ids) hX he5) (by decide) rfl hl.1 rfl (Nat.le_of_ble_eq_true rfl) dX10_vats_9 ⟨Nat.le_refl _, Nat.le_refl _⟩) (fun H locs hw => ?_)
    refine lv_if_ne (tgt := 18) C.1 C.2.1 dX10_vats_12 (by decide) (fun hc8 => ?_) (fun hc8 => ?_)
    · replace hf := ea_if_f hc8 hf
      refine lv_aload_n C.1 C.2.1 dX10_vats_18 rfl (lv_at hl 0 rfl) ?_
      refine gf_X10_24 C hw (hX 0 10 rfl) dX10_vats_19 ?_
      refine gf_X10_110 C hw (hX 4 9 rfl) dX10_vats_22 ?_
      obtain ⟨hc9, hf⟩ := ea_ck_s hf
      obtain ⟨r11, M12, he10, hf⟩ := ea_ci_s hf
      refine ea_runi2 hw (cl_X10_296 C hw (ea_dyn hX hc9) (As := []) (rest := []) (mX1_cells (l := l) (E := E) (ids := ids) hX (ea_dyn hX hc9) he10) (by decide) rfl hl.1 rfl (Nat.le_of_ble_eq_true rfl) dX10_vats_25 ⟨Nat.le_refl _, Nat.le_refl _⟩) (fun H locs hw => ?_)
      refine lv_istore_n (lv' := [(3, .int r11), (0, .ref (E.1 0)), (1, .int x1), (2, .int x2)]) C.1 C.2.1 dX10_vats_28 rfl hl (by decide) rfl (fun ls hl => ?_)
      refine lv_iconst (v := 0) C.1 C.2.1 dX10_vats_29 (by decide) ?_
      refine lv_istore (lv' := [(4, .int (0 : Int32)), (3, .int r11), (0, .ref (E.1 0)), (1, .int x1), (2, .int x2)]) C.1 C.2.1 dX10_vats_30 hl (by decide) rfl (fun ls hl => ?_)
      exact wX10_vats_32 C hX (wX10_vats_59 C hX) ea_N _ _ _ _ _ _ _ _ hf hw (lv_sub hl [2, 3, 4, 1, 0] rfl)
    · replace hf := ea_if_t hc8 hf
      refine lv_bipush (v := (-2 : Int32)) C.1 C.2.1 dX10_vats_15 (by decide) ?_
      exact ea_iret C hw hf dX10_vats_17
set_option maxHeartbeats 4000000 in
set_option maxRecDepth 20000 in
theorem mX10_vats {l : Launch} {E : eE} {ids : List Nat} (hX : ea_X ids) {x1 : Int32} {x2 : Int32} {M : eM} {res : Int32 × eM} (hf : fX10_vats x1 x2 M = some res) : ea_Mi l yX10_vats cX10_vats 6 (some .int) 5 126 E ids [.ref (E.1 0), .int x1, .int x2] M res := by
  refine ea_goi (by decide) (Nat.le_of_ble_eq_true rfl) wc_X10_vats ?_
  intro p e s m below meth cd ls C hw hl
  exact wX10_vats_0 C hX _ _ _ _ _ _ hf hw hl
end SX10_vats

def fX10_was_0 (x1 : Int32) (x2 : Int32) (x3 : Int32) (x4 : Int32) (x5 : Int32) (M : eM) : Option (Int32 × eM) := ea_ci (fX10_mayFit x1 x2 x3 M) (fun r2 M3 => if r2 = 0 then (some ((-2 : Int32), M3)) else (ea_ci (fX10_isColour x4 M3) (fun r6 M7 => if r6 = 0 then (some ((-2 : Int32), M7)) else (ea_cv (fX3_find 50 x1 x2 x3 M7) (fun M10 => if (M10.1 50 6) = 0 then (some ((-1 : Int32), M10)) else (ea_cv (fX3_measureSpan 50 M10) (fun M13 => if x5 = 0 then (ea_ck (ea_ix x4 (ea_len 54)) (some (M13.1 54 x4.toNatClampNeg, M13))) else (ea_ck (ea_ix x4 (ea_len 55)) (some (M13.1 55 x4.toNatClampNeg, M13))))))))))
def fX10_was (x1 : Int32) (x2 : Int32) (x3 : Int32) (x4 : Int32) (x5 : Int32) (M : eM) : Option (Int32 × eM) := fX10_was_0 x1 x2 x3 x4 x5 M
section SX10_was
variable {p : Program} {l : Launch} {e : Env} {s : State} {m : MethodId} {args : Array Value} {below : List Frame} {meth : Method} {cd : Code} {E : eE} {ids : List Nat} {res : Int32 × eM}
set_option maxHeartbeats 4000000 in
set_option maxRecDepth 20000 in
theorem wX10_was_0 (C : ea_C p s m args meth cd cX10_was 6 (some .int) RX10) (hX : ea_X ids) : ∀ (x1 : Int32) (x2 : Int32) (x3 : Int32) (x4 : Int32) (x5 : Int32) (M : eM) (H : Heap) (locs : List Loc) (ls : Array Slot), fX10_was_0 x1 x2 x3 x4 x5 M = some res → ea_w E ids M s H locs → lv_has ls 6 [(0, .ref (E.1 0)), (1, .int x1), (2, .int x2), (3, .int x3), (4, .int x4), (5, .int x5)] → W p l e (ea_rm 4 103) s m args below meth cd H locs 0 0 (MQ below (ea_Qi E ids res) args s 0 0 (ea_Ad E ids)) (F0 m 0 ls []) := by
  intro x1 x2 x3 x4 x5 M H locs ls hf  hw hl
  replace hf := (fX10_was_0.eq_1 ..).symm.trans hf
  refine lv_aload_n C.1 C.2.1 dX10_was_0 rfl (lv_at hl 0 rfl) ?_
  refine lv_iload_n C.1 C.2.1 dX10_was_1 rfl (lv_at hl 1 rfl) ?_
  refine lv_iload_n C.1 C.2.1 dX10_was_2 rfl (lv_at hl 2 rfl) ?_
  refine lv_iload_n C.1 C.2.1 dX10_was_3 rfl (lv_at hl 3 rfl) ?_
  obtain ⟨r2, M3, he1, hf⟩ := ea_ci_s hf
  refine ea_runi2 hw (cl_X10_238 C hw (hX 0 10 rfl) (As := [.int x1, .int x2, .int x3]) (rest := []) (mX10_mayFit (l := l) (E := E) (ids := ids) hX he1) (by decide) rfl hl.1 rfl (Nat.le_of_ble_eq_true rfl) dX10_was_4 ⟨Nat.le_refl _, Nat.le_refl _⟩) (fun H locs hw => ?_)
  refine lv_if_eq (tgt := 18) C.1 C.2.1 dX10_was_7 (by decide) (fun hc4 => ?_) (fun hc4 => ?_)
  · replace hf := ea_if_t hc4 hf
    refine lv_bipush (v := (-2 : Int32)) C.1 C.2.1 dX10_was_18 (by decide) ?_
    exact ea_iret C hw hf dX10_was_20
  · replace hf := ea_if_f hc4 hf
    refine lv_iload C.1 C.2.1 dX10_was_10 (lv_at hl 4 rfl) ?_
    obtain ⟨r6, M7, he5, hf⟩ := ea_ci_s hf
    refine ea_runi2 hw (cl_X10_186 C hw (As := [.int x4]) (rest := []) (mX10_isColour (l := l) (E := E) (ids := ids) hX he5) (by decide) rfl hl.1 rfl (Nat.le_of_ble_eq_true rfl) dX10_was_12 ⟨Nat.le_refl _, Nat.le_refl _⟩) (fun H locs hw => ?_)
    refine lv_if_ne (tgt := 21) C.1 C.2.1 dX10_was_15 (by decide) (fun hc8 => ?_) (fun hc8 => ?_)
    · replace hf := ea_if_f hc8 hf
      refine lv_aload_n C.1 C.2.1 dX10_was_21 rfl (lv_at hl 0 rfl) ?_
      refine gf_X10_57 C hw (hX 0 10 rfl) dX10_was_22 ?_
      refine lv_iload_n C.1 C.2.1 dX10_was_25 rfl (lv_at hl 1 rfl) ?_
      refine lv_iload_n C.1 C.2.1 dX10_was_26 rfl (lv_at hl 2 rfl) ?_
      refine lv_iload_n C.1 C.2.1 dX10_was_27 rfl (lv_at hl 3 rfl) ?_
      obtain ⟨M10, he9, hf⟩ := ea_cv_s hf
      refine ea_runv hw (cl_X10_241 C hw (hX 50 3 rfl) (As := [.int x1, .int x2, .int x3]) (rest := []) (mX3_find (l := l) (E := E) (ids := ids) hX (hX 50 3 rfl) he9) (by decide) rfl hl.1 rfl (Nat.le_of_ble_eq_true rfl) dX10_was_28 ⟨Nat.le_refl _, Nat.le_refl _⟩) (fun H locs hw => ?_)
      refine lv_aload_n C.1 C.2.1 dX10_was_31 rfl (lv_at hl 0 rfl) ?_
      refine gf_X10_57 C hw (hX 0 10 rfl) dX10_was_32 ?_
      refine gf_X10_245 C hw (hX 50 3 rfl) dX10_was_35 ?_
      refine lv_if_ne (tgt := 43) C.1 C.2.1 dX10_was_38 (by decide) (fun hc11 => ?_) (fun hc11 => ?_)
      · replace hf := ea_if_f hc11 hf
        refine lv_aload_n C.1 C.2.1 dX10_was_43 rfl (lv_at hl 0 rfl) ?_
        refine gf_X10_57 C hw (hX 0 10 rfl) dX10_was_44 ?_
        obtain ⟨M13, he12, hf⟩ := ea_cv_s hf
        refine ea_runv hw (cl_X10_258 C hw (hX 50 3 rfl) (As := []) (rest := []) (mX3_measureSpan (l := l) (E := E) (ids := ids) hX (hX 50 3 rfl) he12) (by decide) rfl hl.1 rfl (Nat.le_of_ble_eq_true rfl) dX10_was_47 ⟨Nat.le_refl _, Nat.le_refl _⟩) (fun H locs hw => ?_)
        refine lv_iload C.1 C.2.1 dX10_was_50 (lv_at hl 5 rfl) ?_
        refine lv_if_eq (tgt := 68) C.1 C.2.1 dX10_was_52 (by decide) (fun hc14 => ?_) (fun hc14 => ?_)
        · replace hf := ea_if_t hc14 hf
          refine lv_aload_n C.1 C.2.1 dX10_was_68 rfl (lv_at hl 0 rfl) ?_
          refine gf_X10_57 C hw (hX 0 10 rfl) dX10_was_69 ?_
          refine gf_X10_264 C hw (hX 50 3 rfl) dX10_was_72 ?_
          refine W.eq (g2 := F0 m 75 ls [.ref (E.1 54)]) rfl ?_
          refine lv_iload C.1 C.2.1 dX10_was_75 (lv_at hl 4 rfl) ?_
          obtain ⟨hc15, hf⟩ := ea_ck_s hf
          refine ea_iald C hw (show ea_ok ids 54 20 from ok_3_4 (hX 50 3 rfl)) hc15 dX10_was_77 ?_
          exact ea_iret C hw hf dX10_was_78
        · replace hf := ea_if_f hc14 hf
          refine lv_aload_n C.1 C.2.1 dX10_was_55 rfl (lv_at hl 0 rfl) ?_
          refine gf_X10_57 C hw (hX 0 10 rfl) dX10_was_56 ?_
          refine gf_X10_261 C hw (hX 50 3 rfl) dX10_was_59 ?_
          refine W.eq (g2 := F0 m 62 ls [.ref (E.1 55)]) rfl ?_
          refine lv_iload C.1 C.2.1 dX10_was_62 (lv_at hl 4 rfl) ?_
          obtain ⟨hc16, hf⟩ := ea_ck_s hf
          refine ea_iald C hw (show ea_ok ids 55 20 from ok_3_5 (hX 50 3 rfl)) hc16 dX10_was_64 ?_
          refine lv_goto (tgt := 78) C.1 C.2.1 dX10_was_65 (by decide) ?_
          exact ea_iret C hw hf dX10_was_78
      · replace hf := ea_if_t hc11 hf
        refine lv_iconst (v := (-1 : Int32)) C.1 C.2.1 dX10_was_41 (by decide) ?_
        exact ea_iret C hw hf dX10_was_42
    · replace hf := ea_if_t hc8 hf
      refine lv_bipush (v := (-2 : Int32)) C.1 C.2.1 dX10_was_18 (by decide) ?_
      exact ea_iret C hw hf dX10_was_20
set_option maxHeartbeats 4000000 in
set_option maxRecDepth 20000 in
theorem mX10_was {l : Launch} {E : eE} {ids : List Nat} (hX : ea_X ids) {x1 : Int32} {x2 : Int32} {x3 : Int32} {x4 : Int32} {x5 : Int32} {M : eM} {res : Int32 × eM} (hf : fX10_was x1 x2 x3 x4 x5 M = some res) : ea_Mi l yX10_was cX10_was 6 (some .int) 4 103 E ids [.ref (E.1 0), .int x1, .int x2, .int x3, .int x4, .int x5] M res := by
  refine ea_goi (by decide) (Nat.le_of_ble_eq_true rfl) wc_X10_was ?_
  intro p e s m below meth cd ls C hw hl
  exact wX10_was_0 C hX _ _ _ _ _ _ _ _ _ hf hw hl
end SX10_was

def fX10_world_65 (k149 : Int32 → eM → Option (Int32 × eM)) : Nat → Int32 → Int32 → Int32 → Int32 → eM → Option (Int32 × eM)
  | 0, _, _, _, _, _ => none
  | n + 1, x1, x3, x4, x5, M => ea_ck (ea_is (M.2.2 4 0) 1) (ea_ci (fX1_cells (M.2.2 4 0) M) (fun r3 M4 => if r3 ≤ x5 then (k149 x4 M4) else (ea_ci (fX10_drawThread M4) (fun r7 M8 => ea_ck (ea_is (M8.2.2 4 0) 1) (ea_ck (ea_is (M8.2.2 4 0) 1) (ea_ci (fX0_draw ((1 : Int32) + (M8.1 (M8.2.2 4 0) 6)) M8) (fun r12 M13 => ea_ci (fX1_yearFrom (M8.2.2 4 0) r12 M13) (fun r15 M16 => ea_cv (fX10_tellSide x1 x5 (0 : Int32) r7 x3 r15 M16) (fun M18 => ea_cv (fX10_tellSide x1 x5 (1 : Int32) r7 x3 r15 M18) (fun M20 => fX10_world_65 k149 n x1 x3 x4 (x5 + (1 : Int32)) M20))))))))))
def fX10_world_149 (x4 : Int32) (M : eM) : Option (Int32 × eM) := some ((M.1 30 3) - x4, M)
def fX10_world_0 (x1 : Int32) (x2 : Int32) (x3 : Int32) (M : eM) : Option (Int32 × eM) := ea_ci (fX10_mayTell x1 M) (fun r2 M3 => if r2 = 0 then (some ((-2 : Int32), M3)) else (if x2 < 0 then (some ((-2 : Int32), M3)) else (ea_ci (fX10_isStory x3 M3) (fun r7 M8 => if r7 = 0 then (some ((-2 : Int32), M8)) else (ea_lt ((ea_pI M8 30 6 x1).1 30 3) (fun y10 => ea_ck (ea_is ((ea_pI M8 30 6 x1).2.2 4 0) 1) (if ((ea_pI M8 30 6 x1).1 ((ea_pI M8 30 6 x1).2.2 4 0) 8) ≤ 0 then (fX10_world_149 y10 (ea_pI M8 30 6 x1)) else (fX10_world_65 (fX10_world_149) ea_N x1 x3 y10 (0 : Int32) (ea_pL (ea_pI M8 30 6 x1) 78 0 x2.toInt64)))))))))
def fX10_world (x1 : Int32) (x2 : Int32) (x3 : Int32) (M : eM) : Option (Int32 × eM) := fX10_world_0 x1 x2 x3 M
section SX10_world
variable {p : Program} {l : Launch} {e : Env} {s : State} {m : MethodId} {args : Array Value} {below : List Frame} {meth : Method} {cd : Code} {E : eE} {ids : List Nat} {res : Int32 × eM}
set_option maxHeartbeats 4000000 in
set_option maxRecDepth 20000 in
theorem wX10_world_65 (C : ea_C p s m args meth cd cX10_world 8 (some .int) RX10) (hX : ea_X ids) {k149 : Int32 → eM → Option (Int32 × eM)} (hk149 : ∀ (x4 : Int32) (M : eM) (H : Heap) (locs : List Loc) (ls : Array Slot), k149 x4 M = some res → ea_w E ids M s H locs → lv_has ls 8 [(0, .ref (E.1 0)), (4, .int x4)] → W p l e (ea_rm 5 121) s m args below meth cd H locs 0 0 (MQ below (ea_Qi E ids res) args s 0 0 (ea_Ad E ids)) (F0 m 149 ls [])) : ∀ (n : Nat) (x1 : Int32) (x3 : Int32) (x4 : Int32) (x5 : Int32) (M : eM) (H : Heap) (locs : List Loc) (ls : Array Slot), fX10_world_65 k149 n x1 x3 x4 x5 M = some res → ea_w E ids M s H locs → lv_has ls 8 [(0, .ref (E.1 0)), (1, .int x1), (3, .int x3), (4, .int x4), (5, .int x5)] → W p l e (ea_rm 5 121) s m args below meth cd H locs 0 0 (MQ below (ea_Qi E ids res) args s 0 0 (ea_Ad E ids)) (F0 m 65 ls []) := by
  intro n
  induction n with
  | zero => intro x1 x3 x4 x5 M H locs ls hf; cases hf
  | succ n ih =>
    intro x1 x3 x4 x5 M H locs ls hf  hw hl
    replace hf := (fX10_world_65.eq_2 ..).symm.trans hf
    refine lv_iload C.1 C.2.1 dX10_world_65 (lv_at hl 4 rfl) ?_
    refine lv_aload_n C.1 C.2.1 dX10_world_67 rfl (lv_at hl 0 rfl) ?_
    refine gf_X10_24 C hw (hX 0 10 rfl) dX10_world_68 ?_
    refine gf_X10_110 C hw (hX 4 9 rfl) dX10_world_71 ?_
    obtain ⟨hc1, hf⟩ := ea_ck_s hf
    obtain ⟨r3, M4, he2, hf⟩ := ea_ci_s hf
    refine ea_runi2 hw (cl_X10_296 C hw (ea_dyn hX hc1) (As := []) (rest := [.int x5]) (mX1_cells (l := l) (E := E) (ids := ids) hX (ea_dyn hX hc1) he2) (by decide) rfl hl.1 rfl (Nat.le_of_ble_eq_true rfl) dX10_world_74 ⟨Nat.le_refl _, Nat.le_refl _⟩) (fun H locs hw => ?_)
    refine lv_icmp_ge (tgt := 149) C.1 C.2.1 dX10_world_77 (by decide) (fun hc5 => ?_) (fun hc5 => ?_)
    · replace hf := ea_if_t hc5 hf
      exact hk149 _ _ _ _ _ hf hw (lv_sub hl [0, 3] rfl)
    · replace hf := ea_if_f hc5 hf
      refine lv_aload_n C.1 C.2.1 dX10_world_80 rfl (lv_at hl 0 rfl) ?_
      obtain ⟨r7, M8, he6, hf⟩ := ea_ci_s hf
      refine ea_runi2 hw (cl_X10_345 C hw (hX 0 10 rfl) (As := []) (rest := []) (mX10_drawThread (l := l) (E := E) (ids := ids) hX he6) (by decide) rfl hl.1 rfl (Nat.le_of_ble_eq_true rfl) dX10_world_81 ⟨Nat.le_refl _, Nat.le_refl _⟩) (fun H locs hw => ?_)
      refine lv_istore (lv' := [(6, .int r7), (0, .ref (E.1 0)), (1, .int x1), (3, .int x3), (4, .int x4), (5, .int x5)]) C.1 C.2.1 dX10_world_84 hl (by decide) rfl (fun ls hl => ?_)
      refine lv_aload_n C.1 C.2.1 dX10_world_86 rfl (lv_at hl 1 rfl) ?_
      refine gf_X10_24 C hw (hX 0 10 rfl) dX10_world_87 ?_
      refine gf_X10_110 C hw (hX 4 9 rfl) dX10_world_90 ?_
      obtain ⟨hc9, hf⟩ := ea_ck_s hf
      refine lv_aload_n C.1 C.2.1 dX10_world_93 rfl (lv_at hl 1 rfl) ?_
      refine gf_X10_81 C hw (hX 0 10 rfl) dX10_world_94 ?_
      refine lv_iconst (v := 1) C.1 C.2.1 dX10_world_97 (by decide) ?_
      refine lv_aload_n C.1 C.2.1 dX10_world_98 rfl (lv_at hl 1 rfl) ?_
      refine gf_X10_24 C hw (hX 0 10 rfl) dX10_world_99 ?_
      refine gf_X10_110 C hw (hX 4 9 rfl) dX10_world_102 ?_
      obtain ⟨hc10, hf⟩ := ea_ck_s hf
      refine gf_X10_140 C hw (ea_dyn hX hc10) dX10_world_105 ?_
      refine lv_iadd C.1 C.2.1 dX10_world_108 ?_
      obtain ⟨r12, M13, he11, hf⟩ := ea_ci_s hf
      refine ea_runi2 hw (cl_X10_348 C hw (hX 78 0 rfl) (As := [.int ((1 : Int32) + (M8.1 (M8.2.2 4 0) 6))]) (rest := [.ref (E.1 (M8.2.2 4 0))]) (mX0_draw (l := l) (E := E) (ids := ids) hX he11) (by decide) rfl hl.1 rfl (Nat.le_of_ble_eq_true rfl) dX10_world_109 ⟨Nat.le_refl _, Nat.le_refl _⟩) (fun H locs hw => ?_)
      obtain ⟨r15, M16, he14, hf⟩ := ea_ci_s hf
      refine ea_runi2 hw (cl_X10_351 C hw (ea_dyn hX hc9) (As := [.int r12]) (rest := []) (mX1_yearFrom (l := l) (E := E) (ids := ids) hX (ea_dyn hX hc9) he14) (by decide) rfl hl.1 rfl (Nat.le_of_ble_eq_true rfl) dX10_world_112 ⟨Nat.le_refl _, Nat.le_refl _⟩) (fun H locs hw => ?_)
      refine lv_istore (lv' := [(7, .int r15), (6, .int r7), (0, .ref (E.1 0)), (1, .int x1), (3, .int x3), (4, .int x4), (5, .int x5)]) C.1 C.2.1 dX10_world_115 hl (by decide) rfl (fun ls hl => ?_)
      refine lv_aload_n C.1 C.2.1 dX10_world_117 rfl (lv_at hl 2 rfl) ?_
      refine lv_iload_n C.1 C.2.1 dX10_world_118 rfl (lv_at hl 3 rfl) ?_
      refine lv_iload C.1 C.2.1 dX10_world_119 (lv_at hl 6 rfl) ?_
      refine lv_iconst (v := 0) C.1 C.2.1 dX10_world_121 (by decide) ?_
      refine lv_iload C.1 C.2.1 dX10_world_122 (lv_at hl 1 rfl) ?_
      refine lv_iload_n C.1 C.2.1 dX10_world_124 rfl (lv_at hl 4 rfl) ?_
      refine lv_iload C.1 C.2.1 dX10_world_125 (lv_at hl 0 rfl) ?_
      obtain ⟨M18, he17, hf⟩ := ea_cv_s hf
      refine ea_runv hw (cl_X10_354 C hw (hX 0 10 rfl) (As := [.int x1, .int x5, .int (0 : Int32), .int r7, .int x3, .int r15]) (rest := []) (mX10_tellSide (l := l) (E := E) (ids := ids) hX he17) (by decide) rfl hl.1 rfl (Nat.le_of_ble_eq_true rfl) dX10_world_127 ⟨Nat.le_refl _, Nat.le_refl _⟩) (fun H locs hw => ?_)
      refine lv_aload_n C.1 C.2.1 dX10_world_130 rfl (lv_at hl 2 rfl) ?_
      refine lv_iload_n C.1 C.2.1 dX10_world_131 rfl (lv_at hl 3 rfl) ?_
      refine lv_iload C.1 C.2.1 dX10_world_132 (lv_at hl 6 rfl) ?_
      refine lv_iconst (v := 1) C.1 C.2.1 dX10_world_134 (by decide) ?_
      refine lv_iload C.1 C.2.1 dX10_world_135 (lv_at hl 1 rfl) ?_
      refine lv_iload_n C.1 C.2.1 dX10_world_137 rfl (lv_at hl 4 rfl) ?_
      refine lv_iload C.1 C.2.1 dX10_world_138 (lv_at hl 0 rfl) ?_
      obtain ⟨M20, he19, hf⟩ := ea_cv_s hf
      refine ea_runv hw (cl_X10_354 C hw (hX 0 10 rfl) (As := [.int x1, .int x5, .int (1 : Int32), .int r7, .int x3, .int r15]) (rest := []) (mX10_tellSide (l := l) (E := E) (ids := ids) hX he19) (by decide) rfl hl.1 rfl (Nat.le_of_ble_eq_true rfl) dX10_world_140 ⟨Nat.le_refl _, Nat.le_refl _⟩) (fun H locs hw => ?_)
      refine lv_iinc (v := x5 + (1 : Int32)) (lv' := [(5, .int (x5 + (1 : Int32))), (7, .int r15), (6, .int r7), (0, .ref (E.1 0)), (1, .int x1), (3, .int x3), (4, .int x4)]) C.1 C.2.1 dX10_world_143 hl (k := 6) rfl rfl (by decide) rfl (fun ls hl => ?_)
      refine lv_goto (tgt := 65) C.1 C.2.1 dX10_world_146 (by decide) ?_
      exact ih _ _ _ _ _ _ _ _ hf hw (lv_sub hl [3, 4, 5, 6, 0] rfl)
set_option maxHeartbeats 4000000 in
set_option maxRecDepth 20000 in
theorem wX10_world_149 (C : ea_C p s m args meth cd cX10_world 8 (some .int) RX10) (hX : ea_X ids) : ∀ (x4 : Int32) (M : eM) (H : Heap) (locs : List Loc) (ls : Array Slot), fX10_world_149 x4 M = some res → ea_w E ids M s H locs → lv_has ls 8 [(0, .ref (E.1 0)), (4, .int x4)] → W p l e (ea_rm 5 121) s m args below meth cd H locs 0 0 (MQ below (ea_Qi E ids res) args s 0 0 (ea_Ad E ids)) (F0 m 149 ls []) := by
  intro x4 M H locs ls hf  hw hl
  replace hf := (fX10_world_149.eq_1 ..).symm.trans hf
  refine lv_aload_n C.1 C.2.1 dX10_world_149 rfl (lv_at hl 0 rfl) ?_
  refine gf_X10_44 C hw (hX 0 10 rfl) dX10_world_150 ?_
  refine gf_X10_202 C hw (hX 30 8 rfl) dX10_world_153 ?_
  refine lv_iload C.1 C.2.1 dX10_world_156 (lv_at hl 1 rfl) ?_
  refine lv_isub C.1 C.2.1 dX10_world_158 ?_
  exact ea_iret C hw hf dX10_world_159
set_option maxHeartbeats 4000000 in
set_option maxRecDepth 20000 in
theorem wX10_world_0 (C : ea_C p s m args meth cd cX10_world 8 (some .int) RX10) (hX : ea_X ids) : ∀ (x1 : Int32) (x2 : Int32) (x3 : Int32) (M : eM) (H : Heap) (locs : List Loc) (ls : Array Slot), fX10_world_0 x1 x2 x3 M = some res → ea_w E ids M s H locs → lv_has ls 8 [(0, .ref (E.1 0)), (1, .int x1), (2, .int x2), (3, .int x3)] → W p l e (ea_rm 5 121) s m args below meth cd H locs 0 0 (MQ below (ea_Qi E ids res) args s 0 0 (ea_Ad E ids)) (F0 m 0 ls []) := by
  intro x1 x2 x3 M H locs ls hf  hw hl
  replace hf := (fX10_world_0.eq_1 ..).symm.trans hf
  refine lv_aload_n C.1 C.2.1 dX10_world_0 rfl (lv_at hl 0 rfl) ?_
  refine lv_iload_n C.1 C.2.1 dX10_world_1 rfl (lv_at hl 1 rfl) ?_
  obtain ⟨r2, M3, he1, hf⟩ := ea_ci_s hf
  refine ea_runi2 hw (cl_X10_193 C hw (hX 0 10 rfl) (As := [.int x1]) (rest := []) (mX10_mayTell (l := l) (E := E) (ids := ids) hX he1) (by decide) rfl hl.1 rfl (Nat.le_of_ble_eq_true rfl) dX10_world_2 ⟨Nat.le_refl _, Nat.le_refl _⟩) (fun H locs hw => ?_)
  refine lv_if_eq (tgt := 20) C.1 C.2.1 dX10_world_5 (by decide) (fun hc4 => ?_) (fun hc4 => ?_)
  · replace hf := ea_if_t hc4 hf
    refine lv_bipush (v := (-2 : Int32)) C.1 C.2.1 dX10_world_20 (by decide) ?_
    exact ea_iret C hw hf dX10_world_22
  · replace hf := ea_if_f hc4 hf
    refine lv_iload_n C.1 C.2.1 dX10_world_8 rfl (lv_at hl 2 rfl) ?_
    refine lv_if_lt (tgt := 20) C.1 C.2.1 dX10_world_9 (by decide) (fun hc5 => ?_) (fun hc5 => ?_)
    · replace hf := ea_if_t hc5 hf
      refine lv_bipush (v := (-2 : Int32)) C.1 C.2.1 dX10_world_20 (by decide) ?_
      exact ea_iret C hw hf dX10_world_22
    · replace hf := ea_if_f hc5 hf
      refine lv_aload_n C.1 C.2.1 dX10_world_12 rfl (lv_at hl 0 rfl) ?_
      refine lv_iload_n C.1 C.2.1 dX10_world_13 rfl (lv_at hl 3 rfl) ?_
      obtain ⟨r7, M8, he6, hf⟩ := ea_ci_s hf
      refine ea_runi2 hw (cl_X10_163 C hw (hX 0 10 rfl) (As := [.int x3]) (rest := []) (mX10_isStory (l := l) (E := E) (ids := ids) hX he6) (by decide) rfl hl.1 rfl (Nat.le_of_ble_eq_true rfl) dX10_world_14 ⟨Nat.le_refl _, Nat.le_refl _⟩) (fun H locs hw => ?_)
      refine lv_if_ne (tgt := 23) C.1 C.2.1 dX10_world_17 (by decide) (fun hc9 => ?_) (fun hc9 => ?_)
      · replace hf := ea_if_f hc9 hf
        refine lv_aload_n C.1 C.2.1 dX10_world_23 rfl (lv_at hl 0 rfl) ?_
        refine gf_X10_44 C hw (hX 0 10 rfl) dX10_world_24 ?_
        refine lv_iload_n C.1 C.2.1 dX10_world_27 rfl (lv_at hl 1 rfl) ?_
        refine pu_X10_338 C hw (hX 30 8 rfl) dX10_world_28 (fun H locs hw => ?_)
        refine lv_aload_n C.1 C.2.1 dX10_world_31 rfl (lv_at hl 0 rfl) ?_
        refine gf_X10_44 C hw (hX 0 10 rfl) dX10_world_32 ?_
        refine gf_X10_202 C hw (hX 30 8 rfl) dX10_world_35 ?_
        obtain ⟨y10, ey11, hf⟩ := ea_lt_s hf
        refine ea_topi ey11 ?_
        refine lv_istore (lv' := [(4, .int y10), (0, .ref (E.1 0)), (1, .int x1), (2, .int x2), (3, .int x3)]) C.1 C.2.1 dX10_world_38 hl (by decide) rfl (fun ls hl => ?_)
        refine lv_aload_n C.1 C.2.1 dX10_world_40 rfl (lv_at hl 1 rfl) ?_
        refine gf_X10_24 C hw (hX 0 10 rfl) dX10_world_41 ?_
        refine gf_X10_110 C hw (hX 4 9 rfl) dX10_world_44 ?_
        obtain ⟨hc12, hf⟩ := ea_ck_s hf
        refine gf_X10_155 C hw (ea_dyn hX hc12) dX10_world_47 ?_
        refine lv_if_le (tgt := 149) C.1 C.2.1 dX10_world_50 (by decide) (fun hc13 => ?_) (fun hc13 => ?_)
        · replace hf := ea_if_t hc13 hf
          exact wX10_world_149 C hX _ _ _ _ _ hf hw (lv_sub hl [1, 0] rfl)
        · replace hf := ea_if_f hc13 hf
          refine lv_aload_n C.1 C.2.1 dX10_world_53 rfl (lv_at hl 1 rfl) ?_
          refine gf_X10_81 C hw (hX 0 10 rfl) dX10_world_54 ?_
          refine lv_iload_n C.1 C.2.1 dX10_world_57 rfl (lv_at hl 3 rfl) ?_
          refine lv_i2l C.1 C.2.1 dX10_world_58 rfl ?_
          refine pu_X10_341 C hw (hX 78 0 rfl) dX10_world_59 (fun H locs hw => ?_)
          refine lv_iconst (v := 0) C.1 C.2.1 dX10_world_62 (by decide) ?_
          refine lv_istore (lv' := [(5, .int (0 : Int32)), (4, .int y10), (0, .ref (E.1 0)), (1, .int x1), (2, .int x2), (3, .int x3)]) C.1 C.2.1 dX10_world_63 hl (by decide) rfl (fun ls hl => ?_)
          exact wX10_world_65 C hX (wX10_world_149 C hX) ea_N _ _ _ _ _ _ _ _ hf hw (lv_sub hl [2, 3, 5, 1, 0] rfl)
      · replace hf := ea_if_t hc9 hf
        refine lv_bipush (v := (-2 : Int32)) C.1 C.2.1 dX10_world_20 (by decide) ?_
        exact ea_iret C hw hf dX10_world_22
set_option maxHeartbeats 4000000 in
set_option maxRecDepth 20000 in
theorem mX10_world {l : Launch} {E : eE} {ids : List Nat} (hX : ea_X ids) {x1 : Int32} {x2 : Int32} {x3 : Int32} {M : eM} {res : Int32 × eM} (hf : fX10_world x1 x2 x3 M = some res) : ea_Mi l yX10_world cX10_world 8 (some .int) 5 121 E ids [.ref (E.1 0), .int x1, .int x2, .int x3] M res := by
  refine ea_goi (by decide) (Nat.le_of_ble_eq_true rfl) wc_X10_world ?_
  intro p e s m below meth cd ls C hw hl
  exact wX10_world_0 C hX _ _ _ _ _ _ _ hf hw hl
end SX10_world

def fX11_addLook_0 (x1 : Int32) (x2 : Int32) (x3 : Int32) (x4 : Int32) (x5 : Int32) (x6 : Int32) (x7 : Int32) (M : eM) : Option (Int32 × eM) := ea_lt (M.1 114 (0 : Int32).toNatClampNeg) (fun y1 => if y1 = (90 : Int32) then (some ((-3 : Int32), M)) else (ea_lt ((4 : Int32) + ((7 : Int32) * y1)) (fun y4 => ea_ck (ea_ix y4 (ea_len 114)) (ea_ck (ea_ix (y4 + (1 : Int32)) (ea_len 114)) (ea_ck (ea_ix (y4 + (2 : Int32)) (ea_len 114)) (ea_ck (ea_ix (y4 + (3 : Int32)) (ea_len 114)) (ea_ck (ea_ix (y4 + (4 : Int32)) (ea_len 114)) (ea_ck (ea_ix (y4 + (5 : Int32)) (ea_len 114)) (ea_ck (ea_ix (y4 + (6 : Int32)) (ea_len 114)) (some (y1 + (1 : Int32), ea_pI (ea_pI (ea_pI (ea_pI (ea_pI (ea_pI (ea_pI (ea_pI (ea_pI M 114 ((3 : Int32).toNatClampNeg) x1) 114 (y4.toNatClampNeg) x1) 114 ((y4 + (1 : Int32)).toNatClampNeg) x2) 114 ((y4 + (2 : Int32)).toNatClampNeg) x3) 114 ((y4 + (3 : Int32)).toNatClampNeg) x4) 114 ((y4 + (4 : Int32)).toNatClampNeg) x5) 114 ((y4 + (5 : Int32)).toNatClampNeg) x6) 114 ((y4 + (6 : Int32)).toNatClampNeg) x7) 114 ((0 : Int32).toNatClampNeg) (((ea_pI (ea_pI (ea_pI (ea_pI (ea_pI (ea_pI (ea_pI (ea_pI M 114 ((3 : Int32).toNatClampNeg) x1) 114 (y4.toNatClampNeg) x1) 114 ((y4 + (1 : Int32)).toNatClampNeg) x2) 114 ((y4 + (2 : Int32)).toNatClampNeg) x3) 114 ((y4 + (3 : Int32)).toNatClampNeg) x4) 114 ((y4 + (4 : Int32)).toNatClampNeg) x5) 114 ((y4 + (5 : Int32)).toNatClampNeg) x6) 114 ((y4 + (6 : Int32)).toNatClampNeg) x7).1 114 (0 : Int32).toNatClampNeg) + (1 : Int32)))))))))))))
def fX11_addLook (x1 : Int32) (x2 : Int32) (x3 : Int32) (x4 : Int32) (x5 : Int32) (x6 : Int32) (x7 : Int32) (M : eM) : Option (Int32 × eM) := fX11_addLook_0 x1 x2 x3 x4 x5 x6 x7 M
section SX11_addLook
variable {p : Program} {l : Launch} {e : Env} {s : State} {m : MethodId} {args : Array Value} {below : List Frame} {meth : Method} {cd : Code} {E : eE} {ids : List Nat} {res : Int32 × eM}
set_option maxHeartbeats 4000000 in
set_option maxRecDepth 20000 in
theorem wX11_addLook_0 (C : ea_C p s m args meth cd cX11_addLook 10 (some .int) RX11) (hY : ea_Y ids) : ∀ (x1 : Int32) (x2 : Int32) (x3 : Int32) (x4 : Int32) (x5 : Int32) (x6 : Int32) (x7 : Int32) (M : eM) (H : Heap) (locs : List Loc) (ls : Array Slot), fX11_addLook_0 x1 x2 x3 x4 x5 x6 x7 M = some res → ea_w E ids M s H locs → lv_has ls 10 [(0, .ref (E.1 100)), (1, .int x1), (2, .int x2), (3, .int x3), (4, .int x4), (5, .int x5), (6, .int x6), (7, .int x7)] → W p l e (ea_rm 0 0) s m args below meth cd H locs 0 0 (MQ below (ea_Qi E ids res) args s 0 0 (ea_Ad E ids)) (F0 m 0 ls []) := by
  intro x1 x2 x3 x4 x5 x6 x7 M H locs ls hf  hw hl
  replace hf := (fX11_addLook_0.eq_1 ..).symm.trans hf
  refine lv_aload_n C.1 C.2.1 dX11_addLook_0 rfl (lv_at hl 0 rfl) ?_
  refine gf_X11_55 C hw (hY 100 11 rfl) dX11_addLook_1 ?_
  refine W.eq (g2 := F0 m 4 ls [.ref (E.1 114)]) rfl ?_
  refine lv_iconst (v := 0) C.1 C.2.1 dX11_addLook_4 (by decide) ?_
  refine ea_iald C hw (show ea_ok ids 114 20 from ok_11_27 (hY 100 11 rfl)) (by decide) dX11_addLook_5 ?_
  obtain ⟨y1, ey2, hf⟩ := ea_lt_s hf
  refine ea_topi ey2 ?_
  refine lv_istore (lv' := [(8, .int y1), (0, .ref (E.1 100)), (1, .int x1), (2, .int x2), (3, .int x3), (4, .int x4), (5, .int x5), (6, .int x6), (7, .int x7)]) C.1 C.2.1 dX11_addLook_6 hl (by decide) rfl (fun ls hl => ?_)
  refine lv_iload C.1 C.2.1 dX11_addLook_8 (lv_at hl 0 rfl) ?_
  refine lv_bipush (v := 90) C.1 C.2.1 dX11_addLook_10 (by decide) ?_
  refine lv_icmp_ne (tgt := 18) C.1 C.2.1 dX11_addLook_12 (by decide) (fun hc3 => ?_) (fun hc3 => ?_)
  · replace hf := ea_if_f hc3 hf
    refine lv_iconst (v := 4) C.1 C.2.1 dX11_addLook_18 (by decide) ?_
    refine lv_bipush (v := 7) C.1 C.2.1 dX11_addLook_19 (by decide) ?_
    refine lv_iload C.1 C.2.1 dX11_addLook_21 (lv_at hl 0 rfl) ?_
    refine lv_imul C.1 C.2.1 dX11_addLook_23 ?_
    refine lv_iadd C.1 C.2.1 dX11_addLook_24 ?_
    obtain ⟨y4, ey5, hf⟩ := ea_lt_s hf
    refine ea_topi ey5 ?_
    refine lv_istore (lv' := [(9, .int y4), (8, .int y1), (0, .ref (E.1 100)), (1, .int x1), (2, .int x2), (3, .int x3), (4, .int x4), (5, .int x5), (6, .int x6), (7, .int x7)]) C.1 C.2.1 dX11_addLook_25 hl (by decide) rfl (fun ls hl => ?_)
    refine lv_aload_n C.1 C.2.1 dX11_addLook_27 rfl (lv_at hl 2 rfl) ?_
    refine gf_X11_55 C hw (hY 100 11 rfl) dX11_addLook_28 ?_
    refine W.eq (g2 := F0 m 31 ls [.ref (E.1 114)]) rfl ?_
    refine lv_iconst (v := 3) C.1 C.2.1 dX11_addLook_31 (by decide) ?_
    refine lv_iload_n C.1 C.2.1 dX11_addLook_32 rfl (lv_at hl 3 rfl) ?_
    refine ea_iast C hw (show ea_ok ids 114 20 from ok_11_27 (hY 100 11 rfl)) (by decide) dX11_addLook_33 (fun H locs hw => ?_)
    refine lv_aload_n C.1 C.2.1 dX11_addLook_34 rfl (lv_at hl 2 rfl) ?_
    refine gf_X11_55 C hw (hY 100 11 rfl) dX11_addLook_35 ?_
    refine W.eq (g2 := F0 m 38 ls [.ref (E.1 114)]) rfl ?_
    refine lv_iload C.1 C.2.1 dX11_addLook_38 (lv_at hl 0 rfl) ?_
    refine lv_iload_n C.1 C.2.1 dX11_addLook_40 rfl (lv_at hl 3 rfl) ?_
    obtain ⟨hc6, hf⟩ := ea_ck_s hf
    refine ea_iast C hw (show ea_ok ids 114 20 from ok_11_27 (hY 100 11 rfl)) hc6 dX11_addLook_41 (fun H locs hw => ?_)
    refine lv_aload_n C.1 C.2.1 dX11_addLook_42 rfl (lv_at hl 2 rfl) ?_
    refine gf_X11_55 C hw (hY 100 11 rfl) dX11_addLook_43 ?_
    refine W.eq (g2 := F0 m 46 ls [.ref (E.1 114)]) rfl ?_
    refine lv_iload C.1 C.2.1 dX11_addLook_46 (lv_at hl 0 rfl) ?_
    refine lv_iconst (v := 1) C.1 C.2.1 dX11_addLook_48 (by decide) ?_
    refine lv_iadd C.1 C.2.1 dX11_addLook_49 ?_
    refine lv_iload_n C.1 C.2.1 dX11_addLook_50 rfl (lv_at hl 4 rfl) ?_
    obtain ⟨hc7, hf⟩ := ea_ck_s hf
    refine ea_iast C hw (show ea_ok ids 114 20 from ok_11_27 (hY 100 11 rfl)) hc7 dX11_addLook_51 (fun H locs hw => ?_)
    refine lv_aload_n C.1 C.2.1 dX11_addLook_52 rfl (lv_at hl 2 rfl) ?_
    refine gf_X11_55 C hw (hY 100 11 rfl) dX11_addLook_53 ?_
    refine W.eq (g2 := F0 m 56 ls [.ref (E.1 114)]) rfl ?_
    refine lv_iload C.1 C.2.1 dX11_addLook_56 (lv_at hl 0 rfl) ?_
    refine lv_iconst (v := 2) C.1 C.2.1 dX11_addLook_58 (by decide) ?_
    refine lv_iadd C.1 C.2.1 dX11_addLook_59 ?_
    refine lv_iload_n C.1 C.2.1 dX11_addLook_60 rfl (lv_at hl 5 rfl) ?_
    obtain ⟨hc8, hf⟩ := ea_ck_s hf
    refine ea_iast C hw (show ea_ok ids 114 20 from ok_11_27 (hY 100 11 rfl)) hc8 dX11_addLook_61 (fun H locs hw => ?_)
    refine lv_aload_n C.1 C.2.1 dX11_addLook_62 rfl (lv_at hl 2 rfl) ?_
    refine gf_X11_55 C hw (hY 100 11 rfl) dX11_addLook_63 ?_
    refine W.eq (g2 := F0 m 66 ls [.ref (E.1 114)]) rfl ?_
    refine lv_iload C.1 C.2.1 dX11_addLook_66 (lv_at hl 0 rfl) ?_
    refine lv_iconst (v := 3) C.1 C.2.1 dX11_addLook_68 (by decide) ?_
    refine lv_iadd C.1 C.2.1 dX11_addLook_69 ?_
    refine lv_iload C.1 C.2.1 dX11_addLook_70 (lv_at hl 6 rfl) ?_
    obtain ⟨hc9, hf⟩ := ea_ck_s hf
    refine ea_iast C hw (show ea_ok ids 114 20 from ok_11_27 (hY 100 11 rfl)) hc9 dX11_addLook_72 (fun H locs hw => ?_)
    refine lv_aload_n C.1 C.2.1 dX11_addLook_73 rfl (lv_at hl 2 rfl) ?_
    refine gf_X11_55 C hw (hY 100 11 rfl) dX11_addLook_74 ?_
    refine W.eq (g2 := F0 m 77 ls [.ref (E.1 114)]) rfl ?_
    refine lv_iload C.1 C.2.1 dX11_addLook_77 (lv_at hl 0 rfl) ?_
    refine lv_iconst (v := 4) C.1 C.2.1 dX11_addLook_79 (by decide) ?_
    refine lv_iadd C.1 C.2.1 dX11_addLook_80 ?_
    refine lv_iload C.1 C.2.1 dX11_addLook_81 (lv_at hl 7 rfl) ?_
    obtain ⟨hc10, hf⟩ := ea_ck_s hf
    refine ea_iast C hw (show ea_ok ids 114 20 from ok_11_27 (hY 100 11 rfl)) hc10 dX11_addLook_83 (fun H locs hw => ?_)
    refine lv_aload_n C.1 C.2.1 dX11_addLook_84 rfl (lv_at hl 2 rfl) ?_
    refine gf_X11_55 C hw (hY 100 11 rfl) dX11_addLook_85 ?_
    refine W.eq (g2 := F0 m 88 ls [.ref (E.1 114)]) rfl ?_
    refine lv_iload C.1 C.2.1 dX11_addLook_88 (lv_at hl 0 rfl) ?_
    refine lv_iconst (v := 5) C.1 C.2.1 dX11_addLook_90 (by decide) ?_
    refine lv_iadd C.1 C.2.1 dX11_addLook_91 ?_
    refine lv_iload C.1 C.2.1 dX11_addLook_92 (lv_at hl 8 rfl) ?_
    obtain ⟨hc11, hf⟩ := ea_ck_s hf
    refine ea_iast C hw (show ea_ok ids 114 20 from ok_11_27 (hY 100 11 rfl)) hc11 dX11_addLook_94 (fun H locs hw => ?_)
    refine lv_aload_n C.1 C.2.1 dX11_addLook_95 rfl (lv_at hl 2 rfl) ?_
    refine gf_X11_55 C hw (hY 100 11 rfl) dX11_addLook_96 ?_
    refine W.eq (g2 := F0 m 99 ls [.ref (E.1 114)]) rfl ?_
    refine lv_iload C.1 C.2.1 dX11_addLook_99 (lv_at hl 0 rfl) ?_
    refine lv_bipush (v := 6) C.1 C.2.1 dX11_addLook_101 (by decide) ?_
    refine lv_iadd C.1 C.2.1 dX11_addLook_103 ?_
    refine lv_iload C.1 C.2.1 dX11_addLook_104 (lv_at hl 9 rfl) ?_
    obtain ⟨hc12, hf⟩ := ea_ck_s hf
    refine ea_iast C hw (show ea_ok ids 114 20 from ok_11_27 (hY 100 11 rfl)) hc12 dX11_addLook_106 (fun H locs hw => ?_)
    refine lv_aload_n C.1 C.2.1 dX11_addLook_107 rfl (lv_at hl 2 rfl) ?_
    refine gf_X11_55 C hw (hY 100 11 rfl) dX11_addLook_108 ?_
    refine W.eq (g2 := F0 m 111 ls [.ref (E.1 114)]) rfl ?_
    refine lv_iconst (v := 0) C.1 C.2.1 dX11_addLook_111 (by decide) ?_
    refine lv_dup2_11 C.1 C.2.1 dX11_addLook_112 rfl rfl ?_
    refine ea_iald C hw (show ea_ok ids 114 20 from ok_11_27 (hY 100 11 rfl)) (by decide) dX11_addLook_113 ?_
    refine lv_iconst (v := 1) C.1 C.2.1 dX11_addLook_114 (by decide) ?_
    refine lv_iadd C.1 C.2.1 dX11_addLook_115 ?_
    refine ea_iast C hw (show ea_ok ids 114 20 from ok_11_27 (hY 100 11 rfl)) (by decide) dX11_addLook_116 (fun H locs hw => ?_)
    refine lv_iload C.1 C.2.1 dX11_addLook_117 (lv_at hl 1 rfl) ?_
    refine lv_iconst (v := 1) C.1 C.2.1 dX11_addLook_119 (by decide) ?_
    refine lv_iadd C.1 C.2.1 dX11_addLook_120 ?_
    exact ea_iret C hw hf dX11_addLook_121
  · replace hf := ea_if_t hc3 hf
    refine lv_bipush (v := (-3 : Int32)) C.1 C.2.1 dX11_addLook_15 (by decide) ?_
    exact ea_iret C hw hf dX11_addLook_17
set_option maxHeartbeats 4000000 in
set_option maxRecDepth 20000 in
theorem mX11_addLook {l : Launch} {E : eE} {ids : List Nat} (hY : ea_Y ids) {x1 : Int32} {x2 : Int32} {x3 : Int32} {x4 : Int32} {x5 : Int32} {x6 : Int32} {x7 : Int32} {M : eM} {res : Int32 × eM} (hf : fX11_addLook x1 x2 x3 x4 x5 x6 x7 M = some res) : ea_Mi l yX11_addLook cX11_addLook 10 (some .int) 0 0 E ids [.ref (E.1 100), .int x1, .int x2, .int x3, .int x4, .int x5, .int x6, .int x7] M res := by
  refine ea_goi (by decide) (Nat.le_of_ble_eq_true rfl) wc_X11_addLook ?_
  intro p e s m below meth cd ls C hw hl
  exact wX11_addLook_0 C hY _ _ _ _ _ _ _ _ _ _ _ hf hw hl
end SX11_addLook

def fX11_addThread_0 (x1 : Int32) (x2 : Int32) (x3 : Int32) (x4 : Int32) (M : eM) : Option (eM) := ea_ck (ea_ix (M.1 100 22) (ea_len 110)) (ea_ck (ea_ix ((ea_pI M 110 ((M.1 100 22).toNatClampNeg) x1).1 100 22) (ea_len 111)) (ea_ck (ea_ix ((ea_pI (ea_pI M 110 ((M.1 100 22).toNatClampNeg) x1) 111 (((ea_pI M 110 ((M.1 100 22).toNatClampNeg) x1).1 100 22).toNatClampNeg) x2).1 100 22) (ea_len 112)) (ea_ck (ea_ix ((ea_pI (ea_pI (ea_pI M 110 ((M.1 100 22).toNatClampNeg) x1) 111 (((ea_pI M 110 ((M.1 100 22).toNatClampNeg) x1).1 100 22).toNatClampNeg) x2) 112 (((ea_pI (ea_pI M 110 ((M.1 100 22).toNatClampNeg) x1) 111 (((ea_pI M 110 ((M.1 100 22).toNatClampNeg) x1).1 100 22).toNatClampNeg) x2).1 100 22).toNatClampNeg) x3).1 100 22) (ea_len 113)) (some (ea_pI (ea_pI (ea_pI (ea_pI (ea_pI M 110 ((M.1 100 22).toNatClampNeg) x1) 111 (((ea_pI M 110 ((M.1 100 22).toNatClampNeg) x1).1 100 22).toNatClampNeg) x2) 112 (((ea_pI (ea_pI M 110 ((M.1 100 22).toNatClampNeg) x1) 111 (((ea_pI M 110 ((M.1 100 22).toNatClampNeg) x1).1 100 22).toNatClampNeg) x2).1 100 22).toNatClampNeg) x3) 113 (((ea_pI (ea_pI (ea_pI M 110 ((M.1 100 22).toNatClampNeg) x1) 111 (((ea_pI M 110 ((M.1 100 22).toNatClampNeg) x1).1 100 22).toNatClampNeg) x2) 112 (((ea_pI (ea_pI M 110 ((M.1 100 22).toNatClampNeg) x1) 111 (((ea_pI M 110 ((M.1 100 22).toNatClampNeg) x1).1 100 22).toNatClampNeg) x2).1 100 22).toNatClampNeg) x3).1 100 22).toNatClampNeg) x4) 100 22 (((ea_pI (ea_pI (ea_pI (ea_pI M 110 ((M.1 100 22).toNatClampNeg) x1) 111 (((ea_pI M 110 ((M.1 100 22).toNatClampNeg) x1).1 100 22).toNatClampNeg) x2) 112 (((ea_pI (ea_pI M 110 ((M.1 100 22).toNatClampNeg) x1) 111 (((ea_pI M 110 ((M.1 100 22).toNatClampNeg) x1).1 100 22).toNatClampNeg) x2).1 100 22).toNatClampNeg) x3) 113 (((ea_pI (ea_pI (ea_pI M 110 ((M.1 100 22).toNatClampNeg) x1) 111 (((ea_pI M 110 ((M.1 100 22).toNatClampNeg) x1).1 100 22).toNatClampNeg) x2) 112 (((ea_pI (ea_pI M 110 ((M.1 100 22).toNatClampNeg) x1) 111 (((ea_pI M 110 ((M.1 100 22).toNatClampNeg) x1).1 100 22).toNatClampNeg) x2).1 100 22).toNatClampNeg) x3).1 100 22).toNatClampNeg) x4).1 100 22) + (1 : Int32)))))))
def fX11_addThread (x1 : Int32) (x2 : Int32) (x3 : Int32) (x4 : Int32) (M : eM) : Option (eM) := fX11_addThread_0 x1 x2 x3 x4 M
section SX11_addThread
variable {p : Program} {l : Launch} {e : Env} {s : State} {m : MethodId} {args : Array Value} {below : List Frame} {meth : Method} {cd : Code} {E : eE} {ids : List Nat} {res : eM}
set_option maxHeartbeats 4000000 in
set_option maxRecDepth 20000 in
theorem wX11_addThread_0 (C : ea_C p s m args meth cd cX11_addThread 5 none RX11) (hY : ea_Y ids) : ∀ (x1 : Int32) (x2 : Int32) (x3 : Int32) (x4 : Int32) (M : eM) (H : Heap) (locs : List Loc) (ls : Array Slot), fX11_addThread_0 x1 x2 x3 x4 M = some res → ea_w E ids M s H locs → lv_has ls 5 [(0, .ref (E.1 100)), (1, .int x1), (2, .int x2), (3, .int x3), (4, .int x4)] → W p l e (ea_rm 0 0) s m args below meth cd H locs 0 0 (MQ below (ea_Qv E ids res) args s 0 0 (ea_Ad E ids)) (F0 m 0 ls []) := by
  intro x1 x2 x3 x4 M H locs ls hf  hw hl
  replace hf := (fX11_addThread_0.eq_1 ..).symm.trans hf
  refine lv_aload_n C.1 C.2.1 dX11_addThread_0 rfl (lv_at hl 0 rfl) ?_
  refine gf_X11_43 C hw (hY 100 11 rfl) dX11_addThread_1 ?_
  refine W.eq (g2 := F0 m 4 ls [.ref (E.1 110)]) rfl ?_
  refine lv_aload_n C.1 C.2.1 dX11_addThread_4 rfl (lv_at hl 0 rfl) ?_
  refine gf_X11_189 C hw (hY 100 11 rfl) dX11_addThread_5 ?_
  refine lv_iload_n C.1 C.2.1 dX11_addThread_8 rfl (lv_at hl 1 rfl) ?_
  obtain ⟨hc1, hf⟩ := ea_ck_s hf
  refine ea_iast C hw (show ea_ok ids 110 20 from ok_11_23 (hY 100 11 rfl)) hc1 dX11_addThread_9 (fun H locs hw => ?_)
  refine lv_aload_n C.1 C.2.1 dX11_addThread_10 rfl (lv_at hl 0 rfl) ?_
  refine gf_X11_46 C hw (hY 100 11 rfl) dX11_addThread_11 ?_
  refine W.eq (g2 := F0 m 14 ls [.ref (E.1 111)]) rfl ?_
  refine lv_aload_n C.1 C.2.1 dX11_addThread_14 rfl (lv_at hl 0 rfl) ?_
  refine gf_X11_189 C hw (hY 100 11 rfl) dX11_addThread_15 ?_
  refine lv_iload_n C.1 C.2.1 dX11_addThread_18 rfl (lv_at hl 2 rfl) ?_
  obtain ⟨hc2, hf⟩ := ea_ck_s hf
  refine ea_iast C hw (show ea_ok ids 111 20 from ok_11_24 (hY 100 11 rfl)) hc2 dX11_addThread_19 (fun H locs hw => ?_)
  refine lv_aload_n C.1 C.2.1 dX11_addThread_20 rfl (lv_at hl 0 rfl) ?_
  refine gf_X11_49 C hw (hY 100 11 rfl) dX11_addThread_21 ?_
  refine W.eq (g2 := F0 m 24 ls [.ref (E.1 112)]) rfl ?_
  refine lv_aload_n C.1 C.2.1 dX11_addThread_24 rfl (lv_at hl 0 rfl) ?_
  refine gf_X11_189 C hw (hY 100 11 rfl) dX11_addThread_25 ?_
  refine lv_iload_n C.1 C.2.1 dX11_addThread_28 rfl (lv_at hl 3 rfl) ?_
  obtain ⟨hc3, hf⟩ := ea_ck_s hf
  refine ea_iast C hw (show ea_ok ids 112 20 from ok_11_25 (hY 100 11 rfl)) hc3 dX11_addThread_29 (fun H locs hw => ?_)
  refine lv_aload_n C.1 C.2.1 dX11_addThread_30 rfl (lv_at hl 0 rfl) ?_
  refine gf_X11_52 C hw (hY 100 11 rfl) dX11_addThread_31 ?_
  refine W.eq (g2 := F0 m 34 ls [.ref (E.1 113)]) rfl ?_
  refine lv_aload_n C.1 C.2.1 dX11_addThread_34 rfl (lv_at hl 0 rfl) ?_
  refine gf_X11_189 C hw (hY 100 11 rfl) dX11_addThread_35 ?_
  refine lv_iload C.1 C.2.1 dX11_addThread_38 (lv_at hl 4 rfl) ?_
  obtain ⟨hc4, hf⟩ := ea_ck_s hf
  refine ea_iast C hw (show ea_ok ids 113 20 from ok_11_26 (hY 100 11 rfl)) hc4 dX11_addThread_40 (fun H locs hw => ?_)
  refine lv_aload_n C.1 C.2.1 dX11_addThread_41 rfl (lv_at hl 0 rfl) ?_
  refine lv_dup C.1 C.2.1 dX11_addThread_42 rfl ?_
  refine gf_X11_189 C hw (hY 100 11 rfl) dX11_addThread_43 ?_
  refine lv_iconst (v := 1) C.1 C.2.1 dX11_addThread_46 (by decide) ?_
  refine lv_iadd C.1 C.2.1 dX11_addThread_47 ?_
  refine pu_X11_189 C hw (hY 100 11 rfl) dX11_addThread_48 (fun H locs hw => ?_)
  exact ea_vret C hw hf dX11_addThread_51
set_option maxHeartbeats 4000000 in
set_option maxRecDepth 20000 in
theorem mX11_addThread {l : Launch} {E : eE} {ids : List Nat} (hY : ea_Y ids) {x1 : Int32} {x2 : Int32} {x3 : Int32} {x4 : Int32} {M : eM} {res : eM} (hf : fX11_addThread x1 x2 x3 x4 M = some res) : ea_Mv l yX11_addThread cX11_addThread 5 0 0 E ids [.ref (E.1 100), .int x1, .int x2, .int x3, .int x4] M res := by
  refine ea_gov (by decide) (Nat.le_of_ble_eq_true rfl) wc_X11_addThread ?_
  intro p e s m below meth cd ls C hw hl
  exact wX11_addThread_0 C hY _ _ _ _ _ _ _ _ hf hw hl
end SX11_addThread

def fX11_addWord_23 (k58 : eM → Option (eM)) : Nat → Int32 → Int32 → eM → Option (eM)
  | 0, _, _, _ => none
  | n + 1, x3, x4, M => if (3 : Int32) ≤ x4 then (k58 M) else (ea_ck (ea_ix (x3 + x4) (ea_len 114)) (ea_ck (ea_ix (((3 : Int32) * (M.1 100 29)) + x4) (ea_len 118)) (fX11_addWord_23 k58 n x3 (x4 + (1 : Int32)) (ea_pI M 118 ((((3 : Int32) * (M.1 100 29)) + x4).toNatClampNeg) (M.1 114 (x3 + x4).toNatClampNeg)))))
def fX11_addWord_58 (M : eM) : Option (eM) := some (ea_pI M 100 29 ((M.1 100 29) + (1 : Int32)))
def fX11_addWord_0 (x1 : Int32) (x2 : Int32) (x3 : Int32) (M : eM) : Option (eM) := ea_ck (ea_ix (M.1 100 29) (ea_len 116)) (ea_ck (ea_ix ((ea_pI M 116 ((M.1 100 29).toNatClampNeg) x1).1 100 29) (ea_len 117)) (fX11_addWord_23 (fX11_addWord_58) ea_N x3 (0 : Int32) (ea_pI (ea_pI M 116 ((M.1 100 29).toNatClampNeg) x1) 117 (((ea_pI M 116 ((M.1 100 29).toNatClampNeg) x1).1 100 29).toNatClampNeg) x2)))
def fX11_addWord (x1 : Int32) (x2 : Int32) (x3 : Int32) (M : eM) : Option (eM) := fX11_addWord_0 x1 x2 x3 M
section SX11_addWord
variable {p : Program} {l : Launch} {e : Env} {s : State} {m : MethodId} {args : Array Value} {below : List Frame} {meth : Method} {cd : Code} {E : eE} {ids : List Nat} {res : eM}
set_option maxHeartbeats 4000000 in
set_option maxRecDepth 20000 in
theorem wX11_addWord_23 (C : ea_C p s m args meth cd cX11_addWord 5 none RX11) (hY : ea_Y ids) {k58 : eM → Option (eM)} (hk58 : ∀  (M : eM) (H : Heap) (locs : List Loc) (ls : Array Slot), k58 M = some res → ea_w E ids M s H locs → lv_has ls 5 [(0, .ref (E.1 100))] → W p l e (ea_rm 0 0) s m args below meth cd H locs 0 0 (MQ below (ea_Qv E ids res) args s 0 0 (ea_Ad E ids)) (F0 m 58 ls [])) : ∀ (n : Nat) (x3 : Int32) (x4 : Int32) (M : eM) (H : Heap) (locs : List Loc) (ls : Array Slot), fX11_addWord_23 k58 n x3 x4 M = some res → ea_w E ids M s H locs → lv_has ls 5 [(0, .ref (E.1 100)), (3, .int x3), (4, .int x4)] → W p l e (ea_rm 0 0) s m args below meth cd H locs 0 0 (MQ below (ea_Qv E ids res) args s 0 0 (ea_Ad E ids)) (F0 m 23 ls []) := by
  intro n
  induction n with
  | zero => intro x3 x4 M H locs ls hf; cases hf
  | succ n ih =>
    intro x3 x4 M H locs ls hf  hw hl
    replace hf := (fX11_addWord_23.eq_2 ..).symm.trans hf
    refine lv_iload C.1 C.2.1 dX11_addWord_23 (lv_at hl 2 rfl) ?_
    refine lv_iconst (v := 3) C.1 C.2.1 dX11_addWord_25 (by decide) ?_
    refine lv_icmp_ge (tgt := 58) C.1 C.2.1 dX11_addWord_26 (by decide) (fun hc1 => ?_) (fun hc1 => ?_)
    · replace hf := ea_if_t hc1 hf
      exact hk58 _ _ _ _ hf hw (lv_sub hl [0] rfl)
    · replace hf := ea_if_f hc1 hf
      refine lv_aload_n C.1 C.2.1 dX11_addWord_29 rfl (lv_at hl 0 rfl) ?_
      refine gf_X11_68 C hw (hY 100 11 rfl) dX11_addWord_30 ?_
      refine W.eq (g2 := F0 m 33 ls [.ref (E.1 118)]) rfl ?_
      refine lv_iconst (v := 3) C.1 C.2.1 dX11_addWord_33 (by decide) ?_
      refine lv_aload_n C.1 C.2.1 dX11_addWord_34 rfl (lv_at hl 0 rfl) ?_
      refine gf_X11_283 C hw (hY 100 11 rfl) dX11_addWord_35 ?_
      refine lv_imul C.1 C.2.1 dX11_addWord_38 ?_
      refine lv_iload C.1 C.2.1 dX11_addWord_39 (lv_at hl 2 rfl) ?_
      refine lv_iadd C.1 C.2.1 dX11_addWord_41 ?_
      refine lv_aload_n C.1 C.2.1 dX11_addWord_42 rfl (lv_at hl 0 rfl) ?_
      refine gf_X11_55 C hw (hY 100 11 rfl) dX11_addWord_43 ?_
      refine W.eq (g2 := F0 m 46 ls [.ref (E.1 114), .int (((3 : Int32) * (M.1 100 29)) + x4), .ref (E.1 118)]) rfl ?_
      refine lv_iload_n C.1 C.2.1 dX11_addWord_46 rfl (lv_at hl 1 rfl) ?_
      refine lv_iload C.1 C.2.1 dX11_addWord_47 (lv_at hl 2 rfl) ?_
      refine lv_iadd C.1 C.2.1 dX11_addWord_49 ?_
      obtain ⟨hc2, hf⟩ := ea_ck_s hf
      refine ea_iald C hw (show ea_ok ids 114 20 from ok_11_27 (hY 100 11 rfl)) hc2 dX11_addWord_50 ?_
      obtain ⟨hc3, hf⟩ := ea_ck_s hf
      refine ea_iast C hw (show ea_ok ids 118 20 from ok_11_32 (hY 100 11 rfl)) hc3 dX11_addWord_51 (fun H locs hw => ?_)
      refine lv_iinc (v := x4 + (1 : Int32)) (lv' := [(4, .int (x4 + (1 : Int32))), (0, .ref (E.1 100)), (3, .int x3)]) C.1 C.2.1 dX11_addWord_52 hl (k := 2) rfl rfl (by decide) rfl (fun ls hl => ?_)
      refine lv_goto (tgt := 23) C.1 C.2.1 dX11_addWord_55 (by decide) ?_
      exact ih _ _ _ _ _ _ hf hw (lv_sub hl [1, 2, 0] rfl)
set_option maxHeartbeats 4000000 in
set_option maxRecDepth 20000 in
theorem wX11_addWord_58 (C : ea_C p s m args meth cd cX11_addWord 5 none RX11) (hY : ea_Y ids) : ∀  (M : eM) (H : Heap) (locs : List Loc) (ls : Array Slot), fX11_addWord_58 M = some res → ea_w E ids M s H locs → lv_has ls 5 [(0, .ref (E.1 100))] → W p l e (ea_rm 0 0) s m args below meth cd H locs 0 0 (MQ below (ea_Qv E ids res) args s 0 0 (ea_Ad E ids)) (F0 m 58 ls []) := by
  intro M H locs ls hf  hw hl
  replace hf := (fX11_addWord_58.eq_1 ..).symm.trans hf
  refine lv_aload_n C.1 C.2.1 dX11_addWord_58 rfl (lv_at hl 0 rfl) ?_
  refine lv_dup C.1 C.2.1 dX11_addWord_59 rfl ?_
  refine gf_X11_283 C hw (hY 100 11 rfl) dX11_addWord_60 ?_
  refine lv_iconst (v := 1) C.1 C.2.1 dX11_addWord_63 (by decide) ?_
  refine lv_iadd C.1 C.2.1 dX11_addWord_64 ?_
  refine pu_X11_283 C hw (hY 100 11 rfl) dX11_addWord_65 (fun H locs hw => ?_)
  exact ea_vret C hw hf dX11_addWord_68
set_option maxHeartbeats 4000000 in
set_option maxRecDepth 20000 in
theorem wX11_addWord_0 (C : ea_C p s m args meth cd cX11_addWord 5 none RX11) (hY : ea_Y ids) : ∀ (x1 : Int32) (x2 : Int32) (x3 : Int32) (M : eM) (H : Heap) (locs : List Loc) (ls : Array Slot), fX11_addWord_0 x1 x2 x3 M = some res → ea_w E ids M s H locs → lv_has ls 5 [(0, .ref (E.1 100)), (1, .int x1), (2, .int x2), (3, .int x3)] → W p l e (ea_rm 0 0) s m args below meth cd H locs 0 0 (MQ below (ea_Qv E ids res) args s 0 0 (ea_Ad E ids)) (F0 m 0 ls []) := by
  intro x1 x2 x3 M H locs ls hf  hw hl
  replace hf := (fX11_addWord_0.eq_1 ..).symm.trans hf
  refine lv_aload_n C.1 C.2.1 dX11_addWord_0 rfl (lv_at hl 0 rfl) ?_
  refine gf_X11_62 C hw (hY 100 11 rfl) dX11_addWord_1 ?_
  refine W.eq (g2 := F0 m 4 ls [.ref (E.1 116)]) rfl ?_
  refine lv_aload_n C.1 C.2.1 dX11_addWord_4 rfl (lv_at hl 0 rfl) ?_
  refine gf_X11_283 C hw (hY 100 11 rfl) dX11_addWord_5 ?_
  refine lv_iload_n C.1 C.2.1 dX11_addWord_8 rfl (lv_at hl 1 rfl) ?_
  obtain ⟨hc1, hf⟩ := ea_ck_s hf
  refine ea_iast C hw (show ea_ok ids 116 20 from ok_11_30 (hY 100 11 rfl)) hc1 dX11_addWord_9 (fun H locs hw => ?_)
  refine lv_aload_n C.1 C.2.1 dX11_addWord_10 rfl (lv_at hl 0 rfl) ?_
  refine gf_X11_65 C hw (hY 100 11 rfl) dX11_addWord_11 ?_
  refine W.eq (g2 := F0 m 14 ls [.ref (E.1 117)]) rfl ?_
  refine lv_aload_n C.1 C.2.1 dX11_addWord_14 rfl (lv_at hl 0 rfl) ?_
  refine gf_X11_283 C hw (hY 100 11 rfl) dX11_addWord_15 ?_
  refine lv_iload_n C.1 C.2.1 dX11_addWord_18 rfl (lv_at hl 2 rfl) ?_
  obtain ⟨hc2, hf⟩ := ea_ck_s hf
  refine ea_iast C hw (show ea_ok ids 117 20 from ok_11_31 (hY 100 11 rfl)) hc2 dX11_addWord_19 (fun H locs hw => ?_)
  refine lv_iconst (v := 0) C.1 C.2.1 dX11_addWord_20 (by decide) ?_
  refine lv_istore (lv' := [(4, .int (0 : Int32)), (0, .ref (E.1 100)), (1, .int x1), (2, .int x2), (3, .int x3)]) C.1 C.2.1 dX11_addWord_21 hl (by decide) rfl (fun ls hl => ?_)
  exact wX11_addWord_23 C hY (wX11_addWord_58 C hY) ea_N _ _ _ _ _ _ hf hw (lv_sub hl [1, 4, 0] rfl)
set_option maxHeartbeats 4000000 in
set_option maxRecDepth 20000 in
theorem mX11_addWord {l : Launch} {E : eE} {ids : List Nat} (hY : ea_Y ids) {x1 : Int32} {x2 : Int32} {x3 : Int32} {M : eM} {res : eM} (hf : fX11_addWord x1 x2 x3 M = some res) : ea_Mv l yX11_addWord cX11_addWord 5 0 0 E ids [.ref (E.1 100), .int x1, .int x2, .int x3] M res := by
  refine ea_gov (by decide) (Nat.le_of_ble_eq_true rfl) wc_X11_addWord ?_
  intro p e s m below meth cd ls C hw hl
  exact wX11_addWord_0 C hY _ _ _ _ _ _ _ hf hw hl
end SX11_addWord

def fX11_in_0 (x0 : Int32) (x1 : Int32) (x2 : Int32) (M : eM) : Option (Int32 × eM) := if x0 < x1 then (some ((0 : Int32), M)) else (if x2 < x0 then (some ((0 : Int32), M)) else (some ((1 : Int32), M)))
def fX11_in (x0 : Int32) (x1 : Int32) (x2 : Int32) (M : eM) : Option (Int32 × eM) := fX11_in_0 x0 x1 x2 M
section SX11_in
variable {p : Program} {l : Launch} {e : Env} {s : State} {m : MethodId} {args : Array Value} {below : List Frame} {meth : Method} {cd : Code} {E : eE} {ids : List Nat} {res : Int32 × eM}
set_option maxHeartbeats 4000000 in
set_option maxRecDepth 20000 in
theorem wX11_in_0 (C : ea_C p s m args meth cd cX11_in 3 (some .boolean) RX11) (hY : ea_Y ids) : ∀ (x0 : Int32) (x1 : Int32) (x2 : Int32) (M : eM) (H : Heap) (locs : List Loc) (ls : Array Slot), fX11_in_0 x0 x1 x2 M = some res → ea_w E ids M s H locs → lv_has ls 3 [(0, .int x0), (1, .int x1), (2, .int x2)] → W p l e (ea_rm 0 0) s m args below meth cd H locs 0 0 (MQ below (ea_Qi E ids res) args s 0 0 (ea_Ad E ids)) (F0 m 0 ls []) := by
  intro x0 x1 x2 M H locs ls hf  hw hl
  replace hf := (fX11_in_0.eq_1 ..).symm.trans hf
  refine lv_iload_n C.1 C.2.1 dX11_in_0 rfl (lv_at hl 0 rfl) ?_
  refine lv_iload_n C.1 C.2.1 dX11_in_1 rfl (lv_at hl 1 rfl) ?_
  refine lv_icmp_lt (tgt := 14) C.1 C.2.1 dX11_in_2 (by decide) (fun hc1 => ?_) (fun hc1 => ?_)
  · replace hf := ea_if_t hc1 hf
    refine lv_iconst (v := 0) C.1 C.2.1 dX11_in_14 (by decide) ?_
    exact ea_zret C hw (by decide) hf dX11_in_15
  · replace hf := ea_if_f hc1 hf
    refine lv_iload_n C.1 C.2.1 dX11_in_5 rfl (lv_at hl 0 rfl) ?_
    refine lv_iload_n C.1 C.2.1 dX11_in_6 rfl (lv_at hl 2 rfl) ?_
    refine lv_icmp_gt (tgt := 14) C.1 C.2.1 dX11_in_7 (by decide) (fun hc2 => ?_) (fun hc2 => ?_)
    · replace hf := ea_if_t hc2 hf
      refine lv_iconst (v := 0) C.1 C.2.1 dX11_in_14 (by decide) ?_
      exact ea_zret C hw (by decide) hf dX11_in_15
    · replace hf := ea_if_f hc2 hf
      refine lv_iconst (v := 1) C.1 C.2.1 dX11_in_10 (by decide) ?_
      refine lv_goto (tgt := 15) C.1 C.2.1 dX11_in_11 (by decide) ?_
      exact ea_zret C hw (by decide) hf dX11_in_15
set_option maxHeartbeats 4000000 in
set_option maxRecDepth 20000 in
theorem mX11_in {l : Launch} {E : eE} {ids : List Nat} (hY : ea_Y ids) {x0 : Int32} {x1 : Int32} {x2 : Int32} {M : eM} {res : Int32 × eM} (hf : fX11_in x0 x1 x2 M = some res) : ea_Mi l yX11_in cX11_in 3 (some .boolean) 0 0 E ids [.int x0, .int x1, .int x2] M res := by
  refine ea_goi (by decide) (Nat.le_of_ble_eq_true rfl) wc_X11_in ?_
  intro p e s m below meth cd ls C hw hl
  exact wX11_in_0 C hY _ _ _ _ _ _ _ hf hw hl
end SX11_in

def fX11_areColours_0 (x0 : Int32) (x1 : Int32) (x2 : Int32) (M : eM) : Option (Int32 × eM) := ea_ci (fX11_in x0 (0 : Int32) (99 : Int32) M) (fun r2 M3 => if r2 = 0 then (some ((0 : Int32), M3)) else (ea_ci (fX11_in x1 (0 : Int32) (99 : Int32) M3) (fun r6 M7 => if r6 = 0 then (some ((0 : Int32), M7)) else (ea_ci (fX11_in x2 (0 : Int32) (99 : Int32) M7) (fun r10 M11 => if r10 = 0 then (some ((0 : Int32), M11)) else (some ((1 : Int32), M11)))))))
def fX11_areColours (x0 : Int32) (x1 : Int32) (x2 : Int32) (M : eM) : Option (Int32 × eM) := fX11_areColours_0 x0 x1 x2 M
section SX11_areColours
variable {p : Program} {l : Launch} {e : Env} {s : State} {m : MethodId} {args : Array Value} {below : List Frame} {meth : Method} {cd : Code} {E : eE} {ids : List Nat} {res : Int32 × eM}
set_option maxHeartbeats 4000000 in
set_option maxRecDepth 20000 in
theorem wX11_areColours_0 (C : ea_C p s m args meth cd cX11_areColours 3 (some .boolean) RX11) (hY : ea_Y ids) : ∀ (x0 : Int32) (x1 : Int32) (x2 : Int32) (M : eM) (H : Heap) (locs : List Loc) (ls : Array Slot), fX11_areColours_0 x0 x1 x2 M = some res → ea_w E ids M s H locs → lv_has ls 3 [(0, .int x0), (1, .int x1), (2, .int x2)] → W p l e (ea_rm 1 22) s m args below meth cd H locs 0 0 (MQ below (ea_Qi E ids res) args s 0 0 (ea_Ad E ids)) (F0 m 0 ls []) := by
  intro x0 x1 x2 M H locs ls hf  hw hl
  replace hf := (fX11_areColours_0.eq_1 ..).symm.trans hf
  refine lv_iload_n C.1 C.2.1 dX11_areColours_0 rfl (lv_at hl 0 rfl) ?_
  refine lv_iconst (v := 0) C.1 C.2.1 dX11_areColours_1 (by decide) ?_
  refine lv_bipush (v := 99) C.1 C.2.1 dX11_areColours_2 (by decide) ?_
  obtain ⟨r2, M3, he1, hf⟩ := ea_ci_s hf
  refine ea_runi2 hw (cl_X11_172 C hw (As := [.int x0, .int (0 : Int32), .int (99 : Int32)]) (rest := []) (mX11_in (l := l) (E := E) (ids := ids) hY he1) (by decide) rfl hl.1 rfl (Nat.le_of_ble_eq_true rfl) dX11_areColours_4 ⟨Nat.le_refl _, Nat.le_refl _⟩) (fun H locs hw => ?_)
  refine lv_if_eq (tgt := 34) C.1 C.2.1 dX11_areColours_7 (by decide) (fun hc4 => ?_) (fun hc4 => ?_)
  · replace hf := ea_if_t hc4 hf
    refine lv_iconst (v := 0) C.1 C.2.1 dX11_areColours_34 (by decide) ?_
    exact ea_zret C hw (by decide) hf dX11_areColours_35
  · replace hf := ea_if_f hc4 hf
    refine lv_iload_n C.1 C.2.1 dX11_areColours_10 rfl (lv_at hl 1 rfl) ?_
    refine lv_iconst (v := 0) C.1 C.2.1 dX11_areColours_11 (by decide) ?_
    refine lv_bipush (v := 99) C.1 C.2.1 dX11_areColours_12 (by decide) ?_
    obtain ⟨r6, M7, he5, hf⟩ := ea_ci_s hf
    refine ea_runi2 hw (cl_X11_172 C hw (As := [.int x1, .int (0 : Int32), .int (99 : Int32)]) (rest := []) (mX11_in (l := l) (E := E) (ids := ids) hY he5) (by decide) rfl hl.1 rfl (Nat.le_of_ble_eq_true rfl) dX11_areColours_14 ⟨Nat.le_refl _, Nat.le_refl _⟩) (fun H locs hw => ?_)
    refine lv_if_eq (tgt := 34) C.1 C.2.1 dX11_areColours_17 (by decide) (fun hc8 => ?_) (fun hc8 => ?_)
    · replace hf := ea_if_t hc8 hf
      refine lv_iconst (v := 0) C.1 C.2.1 dX11_areColours_34 (by decide) ?_
      exact ea_zret C hw (by decide) hf dX11_areColours_35
    · replace hf := ea_if_f hc8 hf
      refine lv_iload_n C.1 C.2.1 dX11_areColours_20 rfl (lv_at hl 2 rfl) ?_
      refine lv_iconst (v := 0) C.1 C.2.1 dX11_areColours_21 (by decide) ?_
      refine lv_bipush (v := 99) C.1 C.2.1 dX11_areColours_22 (by decide) ?_
      obtain ⟨r10, M11, he9, hf⟩ := ea_ci_s hf
      refine ea_runi2 hw (cl_X11_172 C hw (As := [.int x2, .int (0 : Int32), .int (99 : Int32)]) (rest := []) (mX11_in (l := l) (E := E) (ids := ids) hY he9) (by decide) rfl hl.1 rfl (Nat.le_of_ble_eq_true rfl) dX11_areColours_24 ⟨Nat.le_refl _, Nat.le_refl _⟩) (fun H locs hw => ?_)
      refine lv_if_eq (tgt := 34) C.1 C.2.1 dX11_areColours_27 (by decide) (fun hc12 => ?_) (fun hc12 => ?_)
      · replace hf := ea_if_t hc12 hf
        refine lv_iconst (v := 0) C.1 C.2.1 dX11_areColours_34 (by decide) ?_
        exact ea_zret C hw (by decide) hf dX11_areColours_35
      · replace hf := ea_if_f hc12 hf
        refine lv_iconst (v := 1) C.1 C.2.1 dX11_areColours_30 (by decide) ?_
        refine lv_goto (tgt := 35) C.1 C.2.1 dX11_areColours_31 (by decide) ?_
        exact ea_zret C hw (by decide) hf dX11_areColours_35
set_option maxHeartbeats 4000000 in
set_option maxRecDepth 20000 in
theorem mX11_areColours {l : Launch} {E : eE} {ids : List Nat} (hY : ea_Y ids) {x0 : Int32} {x1 : Int32} {x2 : Int32} {M : eM} {res : Int32 × eM} (hf : fX11_areColours x0 x1 x2 M = some res) : ea_Mi l yX11_areColours cX11_areColours 3 (some .boolean) 1 22 E ids [.int x0, .int x1, .int x2] M res := by
  refine ea_goi (by decide) (Nat.le_of_ble_eq_true rfl) wc_X11_areColours ?_
  intro p e s m below meth cd ls C hw hl
  exact wX11_areColours_0 C hY _ _ _ _ _ _ _ hf hw hl
end SX11_areColours

def fX11_areHours_0 (x0 : Int32) (M : eM) : Option (Int32 × eM) := ea_ci (fX11_in x0 (0 : Int32) (999999 : Int32) M) (fun r2 M3 => ea_ck (ea_01 r2) (some (r2, M3)))
def fX11_areHours (x0 : Int32) (M : eM) : Option (Int32 × eM) := fX11_areHours_0 x0 M
section SX11_areHours
variable {p : Program} {l : Launch} {e : Env} {s : State} {m : MethodId} {args : Array Value} {below : List Frame} {meth : Method} {cd : Code} {E : eE} {ids : List Nat} {res : Int32 × eM}
set_option maxHeartbeats 4000000 in
set_option maxRecDepth 20000 in
theorem wX11_areHours_0 (C : ea_C p s m args meth cd cX11_areHours 1 (some .boolean) RX11) (hY : ea_Y ids) : ∀ (x0 : Int32) (M : eM) (H : Heap) (locs : List Loc) (ls : Array Slot), fX11_areHours_0 x0 M = some res → ea_w E ids M s H locs → lv_has ls 1 [(0, .int x0)] → W p l e (ea_rm 1 22) s m args below meth cd H locs 0 0 (MQ below (ea_Qi E ids res) args s 0 0 (ea_Ad E ids)) (F0 m 0 ls []) := by
  intro x0 M H locs ls hf  hw hl
  replace hf := (fX11_areHours_0.eq_1 ..).symm.trans hf
  refine lv_iload_n C.1 C.2.1 dX11_areHours_0 rfl (lv_at hl 0 rfl) ?_
  refine lv_iconst (v := 0) C.1 C.2.1 dX11_areHours_1 (by decide) ?_
  refine lv_ldc (v := (999999 : Int32)) C.1 C.2.1 C.2.2.2.1 (C.2.2.2.2.1 _ wk_RX11_231) dX11_areHours_2 ?_
  obtain ⟨r2, M3, he1, hf⟩ := ea_ci_s hf
  refine ea_runi2 hw (cl_X11_172 C hw (As := [.int x0, .int (0 : Int32), .int (999999 : Int32)]) (rest := []) (mX11_in (l := l) (E := E) (ids := ids) hY he1) (by decide) rfl hl.1 rfl (Nat.le_of_ble_eq_true rfl) dX11_areHours_4 ⟨Nat.le_refl _, Nat.le_refl _⟩) (fun H locs hw => ?_)
  obtain ⟨hc4, hf⟩ := ea_ck_s hf
  exact ea_zret C hw (ea_01_s hc4) hf dX11_areHours_7
set_option maxHeartbeats 4000000 in
set_option maxRecDepth 20000 in
theorem mX11_areHours {l : Launch} {E : eE} {ids : List Nat} (hY : ea_Y ids) {x0 : Int32} {M : eM} {res : Int32 × eM} (hf : fX11_areHours x0 M = some res) : ea_Mi l yX11_areHours cX11_areHours 1 (some .boolean) 1 22 E ids [.int x0] M res := by
  refine ea_goi (by decide) (Nat.le_of_ble_eq_true rfl) wc_X11_areHours ?_
  intro p e s m below meth cd ls C hw hl
  exact wX11_areHours_0 C hY _ _ _ _ _ hf hw hl
end SX11_areHours

def fX11_cells_0 (M : eM) : Option (Int32 × eM) := some ((M.1 102 (0 : Int32).toNatClampNeg) * (M.1 102 (1 : Int32).toNatClampNeg), M)
def fX11_cells (M : eM) : Option (Int32 × eM) := fX11_cells_0 M
section SX11_cells
variable {p : Program} {l : Launch} {e : Env} {s : State} {m : MethodId} {args : Array Value} {below : List Frame} {meth : Method} {cd : Code} {E : eE} {ids : List Nat} {res : Int32 × eM}
set_option maxHeartbeats 4000000 in
set_option maxRecDepth 20000 in
theorem wX11_cells_0 (C : ea_C p s m args meth cd cX11_cells 1 (some .int) RX11) (hY : ea_Y ids) : ∀  (M : eM) (H : Heap) (locs : List Loc) (ls : Array Slot), fX11_cells_0 M = some res → ea_w E ids M s H locs → lv_has ls 1 [(0, .ref (E.1 100))] → W p l e (ea_rm 0 0) s m args below meth cd H locs 0 0 (MQ below (ea_Qi E ids res) args s 0 0 (ea_Ad E ids)) (F0 m 0 ls []) := by
  intro M H locs ls hf  hw hl
  replace hf := (fX11_cells_0.eq_1 ..).symm.trans hf
  refine lv_aload_n C.1 C.2.1 dX11_cells_0 rfl (lv_at hl 0 rfl) ?_
  refine gf_X11_17 C hw (hY 100 11 rfl) dX11_cells_1 ?_
  refine W.eq (g2 := F0 m 4 ls [.ref (E.1 102)]) rfl ?_
  refine lv_iconst (v := 0) C.1 C.2.1 dX11_cells_4 (by decide) ?_
  refine ea_iald C hw (show ea_ok ids 102 20 from ok_11_12 (hY 100 11 rfl)) (by decide) dX11_cells_5 ?_
  refine lv_aload_n C.1 C.2.1 dX11_cells_6 rfl (lv_at hl 0 rfl) ?_
  refine gf_X11_17 C hw (hY 100 11 rfl) dX11_cells_7 ?_
  refine W.eq (g2 := F0 m 10 ls [.ref (E.1 102), .int (M.1 102 (0 : Int32).toNatClampNeg)]) rfl ?_
  refine lv_iconst (v := 1) C.1 C.2.1 dX11_cells_10 (by decide) ?_
  refine ea_iald C hw (show ea_ok ids 102 20 from ok_11_12 (hY 100 11 rfl)) (by decide) dX11_cells_11 ?_
  refine lv_imul C.1 C.2.1 dX11_cells_12 ?_
  exact ea_iret C hw hf dX11_cells_13
set_option maxHeartbeats 4000000 in
set_option maxRecDepth 20000 in
theorem mX11_cells {l : Launch} {E : eE} {ids : List Nat} (hY : ea_Y ids) {M : eM} {res : Int32 × eM} (hf : fX11_cells M = some res) : ea_Mi l yX11_cells cX11_cells 1 (some .int) 0 0 E ids [.ref (E.1 100)] M res := by
  refine ea_goi (by decide) (Nat.le_of_ble_eq_true rfl) wc_X11_cells ?_
  intro p e s m below meth cd ls C hw hl
  exact wX11_cells_0 C hY  _ _ _ _ hf hw hl
end SX11_cells

def fX11_isCell_0 (x1 : Int32) (M : eM) : Option (Int32 × eM) := ea_ci (fX11_cells M) (fun r2 M3 => ea_ci (fX11_in x1 (0 : Int32) (r2 - (1 : Int32)) M3) (fun r5 M6 => ea_ck (ea_01 r5) (some (r5, M6))))
def fX11_isCell (x1 : Int32) (M : eM) : Option (Int32 × eM) := fX11_isCell_0 x1 M
section SX11_isCell
variable {p : Program} {l : Launch} {e : Env} {s : State} {m : MethodId} {args : Array Value} {below : List Frame} {meth : Method} {cd : Code} {E : eE} {ids : List Nat} {res : Int32 × eM}
set_option maxHeartbeats 4000000 in
set_option maxRecDepth 20000 in
theorem wX11_isCell_0 (C : ea_C p s m args meth cd cX11_isCell 2 (some .boolean) RX11) (hY : ea_Y ids) : ∀ (x1 : Int32) (M : eM) (H : Heap) (locs : List Loc) (ls : Array Slot), fX11_isCell_0 x1 M = some res → ea_w E ids M s H locs → lv_has ls 2 [(0, .ref (E.1 100)), (1, .int x1)] → W p l e (ea_rm 1 22) s m args below meth cd H locs 0 0 (MQ below (ea_Qi E ids res) args s 0 0 (ea_Ad E ids)) (F0 m 0 ls []) := by
  intro x1 M H locs ls hf  hw hl
  replace hf := (fX11_isCell_0.eq_1 ..).symm.trans hf
  refine lv_iload_n C.1 C.2.1 dX11_isCell_0 rfl (lv_at hl 1 rfl) ?_
  refine lv_iconst (v := 0) C.1 C.2.1 dX11_isCell_1 (by decide) ?_
  refine lv_aload_n C.1 C.2.1 dX11_isCell_2 rfl (lv_at hl 0 rfl) ?_
  obtain ⟨r2, M3, he1, hf⟩ := ea_ci_s hf
  refine ea_runi2 hw (cl_X11_222 C hw (hY 100 11 rfl) (As := []) (rest := [.int (0 : Int32), .int x1]) (mX11_cells (l := l) (E := E) (ids := ids) hY he1) (by decide) rfl hl.1 rfl (Nat.le_of_ble_eq_true rfl) dX11_isCell_3 ⟨Nat.le_refl _, Nat.le_refl _⟩) (fun H locs hw => ?_)
  refine lv_iconst (v := 1) C.1 C.2.1 dX11_isCell_6 (by decide) ?_
  refine lv_isub C.1 C.2.1 dX11_isCell_7 ?_
  obtain ⟨r5, M6, he4, hf⟩ := ea_ci_s hf
  refine ea_runi2 hw (cl_X11_172 C hw (As := [.int x1, .int (0 : Int32), .int (r2 - (1 : Int32))]) (rest := []) (mX11_in (l := l) (E := E) (ids := ids) hY he4) (by decide) rfl hl.1 rfl (Nat.le_of_ble_eq_true rfl) dX11_isCell_8 ⟨Nat.le_refl _, Nat.le_refl _⟩) (fun H locs hw => ?_)
  obtain ⟨hc7, hf⟩ := ea_ck_s hf
  exact ea_zret C hw (ea_01_s hc7) hf dX11_isCell_11
set_option maxHeartbeats 4000000 in
set_option maxRecDepth 20000 in
theorem mX11_isCell {l : Launch} {E : eE} {ids : List Nat} (hY : ea_Y ids) {x1 : Int32} {M : eM} {res : Int32 × eM} (hf : fX11_isCell x1 M = some res) : ea_Mi l yX11_isCell cX11_isCell 2 (some .boolean) 1 22 E ids [.ref (E.1 100), .int x1] M res := by
  refine ea_goi (by decide) (Nat.le_of_ble_eq_true rfl) wc_X11_isCell ?_
  intro p e s m below meth cd ls C hw hl
  exact wX11_isCell_0 C hY _ _ _ _ _ hf hw hl
end SX11_isCell

def fX11_isTelling_0 (x1 : Int32) (M : eM) : Option (Int32 × eM) := ea_ci (fX11_in x1 (M.1 114 (3 : Int32).toNatClampNeg) (999 : Int32) M) (fun r2 M3 => ea_ck (ea_01 r2) (some (r2, M3)))
def fX11_isTelling (x1 : Int32) (M : eM) : Option (Int32 × eM) := fX11_isTelling_0 x1 M
section SX11_isTelling
variable {p : Program} {l : Launch} {e : Env} {s : State} {m : MethodId} {args : Array Value} {below : List Frame} {meth : Method} {cd : Code} {E : eE} {ids : List Nat} {res : Int32 × eM}
set_option maxHeartbeats 4000000 in
set_option maxRecDepth 20000 in
theorem wX11_isTelling_0 (C : ea_C p s m args meth cd cX11_isTelling 2 (some .boolean) RX11) (hY : ea_Y ids) : ∀ (x1 : Int32) (M : eM) (H : Heap) (locs : List Loc) (ls : Array Slot), fX11_isTelling_0 x1 M = some res → ea_w E ids M s H locs → lv_has ls 2 [(0, .ref (E.1 100)), (1, .int x1)] → W p l e (ea_rm 1 22) s m args below meth cd H locs 0 0 (MQ below (ea_Qi E ids res) args s 0 0 (ea_Ad E ids)) (F0 m 0 ls []) := by
  intro x1 M H locs ls hf  hw hl
  replace hf := (fX11_isTelling_0.eq_1 ..).symm.trans hf
  refine lv_iload_n C.1 C.2.1 dX11_isTelling_0 rfl (lv_at hl 1 rfl) ?_
  refine lv_aload_n C.1 C.2.1 dX11_isTelling_1 rfl (lv_at hl 0 rfl) ?_
  refine gf_X11_55 C hw (hY 100 11 rfl) dX11_isTelling_2 ?_
  refine W.eq (g2 := F0 m 5 ls [.ref (E.1 114), .int x1]) rfl ?_
  refine lv_iconst (v := 3) C.1 C.2.1 dX11_isTelling_5 (by decide) ?_
  refine ea_iald C hw (show ea_ok ids 114 20 from ok_11_27 (hY 100 11 rfl)) (by decide) dX11_isTelling_6 ?_
  refine lv_sipush (v := 999) C.1 C.2.1 dX11_isTelling_7 (by decide) ?_
  obtain ⟨r2, M3, he1, hf⟩ := ea_ci_s hf
  refine ea_runi2 hw (cl_X11_172 C hw (As := [.int x1, .int (M.1 114 (3 : Int32).toNatClampNeg), .int (999 : Int32)]) (rest := []) (mX11_in (l := l) (E := E) (ids := ids) hY he1) (by decide) rfl hl.1 rfl (Nat.le_of_ble_eq_true rfl) dX11_isTelling_10 ⟨Nat.le_refl _, Nat.le_refl _⟩) (fun H locs hw => ?_)
  obtain ⟨hc4, hf⟩ := ea_ck_s hf
  exact ea_zret C hw (ea_01_s hc4) hf dX11_isTelling_13
set_option maxHeartbeats 4000000 in
set_option maxRecDepth 20000 in
theorem mX11_isTelling {l : Launch} {E : eE} {ids : List Nat} (hY : ea_Y ids) {x1 : Int32} {M : eM} {res : Int32 × eM} (hf : fX11_isTelling x1 M = some res) : ea_Mi l yX11_isTelling cX11_isTelling 2 (some .boolean) 1 22 E ids [.ref (E.1 100), .int x1] M res := by
  refine ea_goi (by decide) (Nat.le_of_ble_eq_true rfl) wc_X11_isTelling ?_
  intro p e s m below meth cd ls C hw hl
  exact wX11_isTelling_0 C hY _ _ _ _ _ hf hw hl
end SX11_isTelling

def fX11_attempt_0 (x1 : Int32) (x2 : Int32) (x3 : Int32) (x4 : Int32) (x5 : Int32) (x6 : Int32) (M : eM) : Option (Int32 × eM) := ea_ci (fX11_isTelling x1 M) (fun r2 M3 => if r2 = 0 then (some ((-2 : Int32), M3)) else (ea_ci (fX11_isCell x2 M3) (fun r6 M7 => if r6 = 0 then (some ((-2 : Int32), M7)) else (ea_ci (fX11_in x3 (1 : Int32) (999 : Int32) M7) (fun r10 M11 => if r10 = 0 then (some ((-2 : Int32), M11)) else (ea_ci (fX11_areColours x4 x5 x6 M11) (fun r14 M15 => if r14 = 0 then (some ((-2 : Int32), M15)) else (ea_lt (M15.1 114 (1 : Int32).toNatClampNeg) (fun y17 => if y17 = (20 : Int32) then (some ((-3 : Int32), M15)) else (ea_lt ((634 : Int32) + ((6 : Int32) * y17)) (fun y20 => ea_ck (ea_ix y20 (ea_len 114)) (ea_ck (ea_ix (y20 + (1 : Int32)) (ea_len 114)) (ea_ck (ea_ix (y20 + (2 : Int32)) (ea_len 114)) (ea_ck (ea_ix (y20 + (3 : Int32)) (ea_len 114)) (ea_ck (ea_ix (y20 + (4 : Int32)) (ea_len 114)) (ea_ck (ea_ix (y20 + (5 : Int32)) (ea_len 114)) (some (y17, ea_pI (ea_pI (ea_pI (ea_pI (ea_pI (ea_pI (ea_pI (ea_pI M15 114 ((3 : Int32).toNatClampNeg) x1) 114 (y20.toNatClampNeg) x1) 114 ((y20 + (1 : Int32)).toNatClampNeg) x2) 114 ((y20 + (2 : Int32)).toNatClampNeg) x3) 114 ((y20 + (3 : Int32)).toNatClampNeg) x4) 114 ((y20 + (4 : Int32)).toNatClampNeg) x5) 114 ((y20 + (5 : Int32)).toNatClampNeg) x6) 114 ((1 : Int32).toNatClampNeg) (((ea_pI (ea_pI (ea_pI (ea_pI (ea_pI (ea_pI (ea_pI M15 114 ((3 : Int32).toNatClampNeg) x1) 114 (y20.toNatClampNeg) x1) 114 ((y20 + (1 : Int32)).toNatClampNeg) x2) 114 ((y20 + (2 : Int32)).toNatClampNeg) x3) 114 ((y20 + (3 : Int32)).toNatClampNeg) x4) 114 ((y20 + (4 : Int32)).toNatClampNeg) x5) 114 ((y20 + (5 : Int32)).toNatClampNeg) x6).1 114 (1 : Int32).toNatClampNeg) + (1 : Int32))))))))))))))))))))
def fX11_attempt (x1 : Int32) (x2 : Int32) (x3 : Int32) (x4 : Int32) (x5 : Int32) (x6 : Int32) (M : eM) : Option (Int32 × eM) := fX11_attempt_0 x1 x2 x3 x4 x5 x6 M
section SX11_attempt
variable {p : Program} {l : Launch} {e : Env} {s : State} {m : MethodId} {args : Array Value} {below : List Frame} {meth : Method} {cd : Code} {E : eE} {ids : List Nat} {res : Int32 × eM}
set_option maxHeartbeats 4000000 in
set_option maxRecDepth 20000 in
theorem wX11_attempt_0 (C : ea_C p s m args meth cd cX11_attempt 9 (some .int) RX11) (hY : ea_Y ids) : ∀ (x1 : Int32) (x2 : Int32) (x3 : Int32) (x4 : Int32) (x5 : Int32) (x6 : Int32) (M : eM) (H : Heap) (locs : List Loc) (ls : Array Slot), fX11_attempt_0 x1 x2 x3 x4 x5 x6 M = some res → ea_w E ids M s H locs → lv_has ls 9 [(0, .ref (E.1 100)), (1, .int x1), (2, .int x2), (3, .int x3), (4, .int x4), (5, .int x5), (6, .int x6)] → W p l e (ea_rm 2 44) s m args below meth cd H locs 0 0 (MQ below (ea_Qi E ids res) args s 0 0 (ea_Ad E ids)) (F0 m 0 ls []) := by
  intro x1 x2 x3 x4 x5 x6 M H locs ls hf  hw hl
  replace hf := (fX11_attempt_0.eq_1 ..).symm.trans hf
  refine lv_aload_n C.1 C.2.1 dX11_attempt_0 rfl (lv_at hl 0 rfl) ?_
  refine lv_iload_n C.1 C.2.1 dX11_attempt_1 rfl (lv_at hl 1 rfl) ?_
  obtain ⟨r2, M3, he1, hf⟩ := ea_ci_s hf
  refine ea_runi2 hw (cl_X11_261 C hw (hY 100 11 rfl) (As := [.int x1]) (rest := []) (mX11_isTelling (l := l) (E := E) (ids := ids) hY he1) (by decide) rfl hl.1 rfl (Nat.le_of_ble_eq_true rfl) dX11_attempt_2 ⟨Nat.le_refl _, Nat.le_refl _⟩) (fun H locs hw => ?_)
  refine lv_if_eq (tgt := 39) C.1 C.2.1 dX11_attempt_5 (by decide) (fun hc4 => ?_) (fun hc4 => ?_)
  · replace hf := ea_if_t hc4 hf
    refine lv_bipush (v := (-2 : Int32)) C.1 C.2.1 dX11_attempt_39 (by decide) ?_
    exact ea_iret C hw hf dX11_attempt_41
  · replace hf := ea_if_f hc4 hf
    refine lv_aload_n C.1 C.2.1 dX11_attempt_8 rfl (lv_at hl 0 rfl) ?_
    refine lv_iload_n C.1 C.2.1 dX11_attempt_9 rfl (lv_at hl 2 rfl) ?_
    obtain ⟨r6, M7, he5, hf⟩ := ea_ci_s hf
    refine ea_runi2 hw (cl_X11_264 C hw (hY 100 11 rfl) (As := [.int x2]) (rest := []) (mX11_isCell (l := l) (E := E) (ids := ids) hY he5) (by decide) rfl hl.1 rfl (Nat.le_of_ble_eq_true rfl) dX11_attempt_10 ⟨Nat.le_refl _, Nat.le_refl _⟩) (fun H locs hw => ?_)
    refine lv_if_eq (tgt := 39) C.1 C.2.1 dX11_attempt_13 (by decide) (fun hc8 => ?_) (fun hc8 => ?_)
    · replace hf := ea_if_t hc8 hf
      refine lv_bipush (v := (-2 : Int32)) C.1 C.2.1 dX11_attempt_39 (by decide) ?_
      exact ea_iret C hw hf dX11_attempt_41
    · replace hf := ea_if_f hc8 hf
      refine lv_iload_n C.1 C.2.1 dX11_attempt_16 rfl (lv_at hl 3 rfl) ?_
      refine lv_iconst (v := 1) C.1 C.2.1 dX11_attempt_17 (by decide) ?_
      refine lv_sipush (v := 999) C.1 C.2.1 dX11_attempt_18 (by decide) ?_
      obtain ⟨r10, M11, he9, hf⟩ := ea_ci_s hf
      refine ea_runi2 hw (cl_X11_172 C hw (As := [.int x3, .int (1 : Int32), .int (999 : Int32)]) (rest := []) (mX11_in (l := l) (E := E) (ids := ids) hY he9) (by decide) rfl hl.1 rfl (Nat.le_of_ble_eq_true rfl) dX11_attempt_21 ⟨Nat.le_refl _, Nat.le_refl _⟩) (fun H locs hw => ?_)
      refine lv_if_eq (tgt := 39) C.1 C.2.1 dX11_attempt_24 (by decide) (fun hc12 => ?_) (fun hc12 => ?_)
      · replace hf := ea_if_t hc12 hf
        refine lv_bipush (v := (-2 : Int32)) C.1 C.2.1 dX11_attempt_39 (by decide) ?_
        exact ea_iret C hw hf dX11_attempt_41
      · replace hf := ea_if_f hc12 hf
        refine lv_iload C.1 C.2.1 dX11_attempt_27 (lv_at hl 4 rfl) ?_
        refine lv_iload C.1 C.2.1 dX11_attempt_29 (lv_at hl 5 rfl) ?_
        refine lv_iload C.1 C.2.1 dX11_attempt_31 (lv_at hl 6 rfl) ?_
        obtain ⟨r14, M15, he13, hf⟩ := ea_ci_s hf
        refine ea_runi2 hw (cl_X11_267 C hw (As := [.int x4, .int x5, .int x6]) (rest := []) (mX11_areColours (l := l) (E := E) (ids := ids) hY he13) (by decide) rfl hl.1 rfl (Nat.le_of_ble_eq_true rfl) dX11_attempt_33 ⟨Nat.le_refl _, Nat.le_refl _⟩) (fun H locs hw => ?_)
        refine lv_if_ne (tgt := 42) C.1 C.2.1 dX11_attempt_36 (by decide) (fun hc16 => ?_) (fun hc16 => ?_)
        · replace hf := ea_if_f hc16 hf
          refine lv_aload_n C.1 C.2.1 dX11_attempt_42 rfl (lv_at hl 0 rfl) ?_
          refine gf_X11_55 C hw (hY 100 11 rfl) dX11_attempt_43 ?_
          refine W.eq (g2 := F0 m 46 ls [.ref (E.1 114)]) rfl ?_
          refine lv_iconst (v := 1) C.1 C.2.1 dX11_attempt_46 (by decide) ?_
          refine ea_iald C hw (show ea_ok ids 114 20 from ok_11_27 (hY 100 11 rfl)) (by decide) dX11_attempt_47 ?_
          obtain ⟨y17, ey18, hf⟩ := ea_lt_s hf
          refine ea_topi ey18 ?_
          refine lv_istore (lv' := [(7, .int y17), (0, .ref (E.1 100)), (1, .int x1), (2, .int x2), (3, .int x3), (4, .int x4), (5, .int x5), (6, .int x6)]) C.1 C.2.1 dX11_attempt_48 hl (by decide) rfl (fun ls hl => ?_)
          refine lv_iload C.1 C.2.1 dX11_attempt_50 (lv_at hl 0 rfl) ?_
          refine lv_bipush (v := 20) C.1 C.2.1 dX11_attempt_52 (by decide) ?_
          refine lv_icmp_ne (tgt := 60) C.1 C.2.1 dX11_attempt_54 (by decide) (fun hc19 => ?_) (fun hc19 => ?_)
          · replace hf := ea_if_f hc19 hf
            refine lv_sipush (v := 634) C.1 C.2.1 dX11_attempt_60 (by decide) ?_
            refine lv_bipush (v := 6) C.1 C.2.1 dX11_attempt_63 (by decide) ?_
            refine lv_iload C.1 C.2.1 dX11_attempt_65 (lv_at hl 0 rfl) ?_
            refine lv_imul C.1 C.2.1 dX11_attempt_67 ?_
            refine lv_iadd C.1 C.2.1 dX11_attempt_68 ?_
            obtain ⟨y20, ey21, hf⟩ := ea_lt_s hf
            refine ea_topi ey21 ?_
            refine lv_istore (lv' := [(8, .int y20), (7, .int y17), (0, .ref (E.1 100)), (1, .int x1), (2, .int x2), (3, .int x3), (4, .int x4), (5, .int x5), (6, .int x6)]) C.1 C.2.1 dX11_attempt_69 hl (by decide) rfl (fun ls hl => ?_)
            refine lv_aload_n C.1 C.2.1 dX11_attempt_71 rfl (lv_at hl 2 rfl) ?_
            refine gf_X11_55 C hw (hY 100 11 rfl) dX11_attempt_72 ?_
            refine W.eq (g2 := F0 m 75 ls [.ref (E.1 114)]) rfl ?_
            refine lv_iconst (v := 3) C.1 C.2.1 dX11_attempt_75 (by decide) ?_
            refine lv_iload_n C.1 C.2.1 dX11_attempt_76 rfl (lv_at hl 3 rfl) ?_
            refine ea_iast C hw (show ea_ok ids 114 20 from ok_11_27 (hY 100 11 rfl)) (by decide) dX11_attempt_77 (fun H locs hw => ?_)
            refine lv_aload_n C.1 C.2.1 dX11_attempt_78 rfl (lv_at hl 2 rfl) ?_
            refine gf_X11_55 C hw (hY 100 11 rfl) dX11_attempt_79 ?_
            refine W.eq (g2 := F0 m 82 ls [.ref (E.1 114)]) rfl ?_
            refine lv_iload C.1 C.2.1 dX11_attempt_82 (lv_at hl 0 rfl) ?_
            refine lv_iload_n C.1 C.2.1 dX11_attempt_84 rfl (lv_at hl 3 rfl) ?_
            obtain ⟨hc22, hf⟩ := ea_ck_s hf
            refine ea_iast C hw (show ea_ok ids 114 20 from ok_11_27 (hY 100 11 rfl)) hc22 dX11_attempt_85 (fun H locs hw => ?_)
            refine lv_aload_n C.1 C.2.1 dX11_attempt_86 rfl (lv_at hl 2 rfl) ?_
            refine gf_X11_55 C hw (hY 100 11 rfl) dX11_attempt_87 ?_
            refine W.eq (g2 := F0 m 90 ls [.ref (E.1 114)]) rfl ?_
            refine lv_iload C.1 C.2.1 dX11_attempt_90 (lv_at hl 0 rfl) ?_
            refine lv_iconst (v := 1) C.1 C.2.1 dX11_attempt_92 (by decide) ?_
            refine lv_iadd C.1 C.2.1 dX11_attempt_93 ?_
            refine lv_iload_n C.1 C.2.1 dX11_attempt_94 rfl (lv_at hl 4 rfl) ?_
            obtain ⟨hc23, hf⟩ := ea_ck_s hf
            refine ea_iast C hw (show ea_ok ids 114 20 from ok_11_27 (hY 100 11 rfl)) hc23 dX11_attempt_95 (fun H locs hw => ?_)
            refine lv_aload_n C.1 C.2.1 dX11_attempt_96 rfl (lv_at hl 2 rfl) ?_
            refine gf_X11_55 C hw (hY 100 11 rfl) dX11_attempt_97 ?_
            refine W.eq (g2 := F0 m 100 ls [.ref (E.1 114)]) rfl ?_
            refine lv_iload C.1 C.2.1 dX11_attempt_100 (lv_at hl 0 rfl) ?_
            refine lv_iconst (v := 2) C.1 C.2.1 dX11_attempt_102 (by decide) ?_
            refine lv_iadd C.1 C.2.1 dX11_attempt_103 ?_
            refine lv_iload_n C.1 C.2.1 dX11_attempt_104 rfl (lv_at hl 5 rfl) ?_
            obtain ⟨hc24, hf⟩ := ea_ck_s hf
            refine ea_iast C hw (show ea_ok ids 114 20 from ok_11_27 (hY 100 11 rfl)) hc24 dX11_attempt_105 (fun H locs hw => ?_)
            refine lv_aload_n C.1 C.2.1 dX11_attempt_106 rfl (lv_at hl 2 rfl) ?_
            refine gf_X11_55 C hw (hY 100 11 rfl) dX11_attempt_107 ?_
            refine W.eq (g2 := F0 m 110 ls [.ref (E.1 114)]) rfl ?_
            refine lv_iload C.1 C.2.1 dX11_attempt_110 (lv_at hl 0 rfl) ?_
            refine lv_iconst (v := 3) C.1 C.2.1 dX11_attempt_112 (by decide) ?_
            refine lv_iadd C.1 C.2.1 dX11_attempt_113 ?_
            refine lv_iload C.1 C.2.1 dX11_attempt_114 (lv_at hl 6 rfl) ?_
            obtain ⟨hc25, hf⟩ := ea_ck_s hf
            refine ea_iast C hw (show ea_ok ids 114 20 from ok_11_27 (hY 100 11 rfl)) hc25 dX11_attempt_116 (fun H locs hw => ?_)
            refine lv_aload_n C.1 C.2.1 dX11_attempt_117 rfl (lv_at hl 2 rfl) ?_
            refine gf_X11_55 C hw (hY 100 11 rfl) dX11_attempt_118 ?_
            refine W.eq (g2 := F0 m 121 ls [.ref (E.1 114)]) rfl ?_
            refine lv_iload C.1 C.2.1 dX11_attempt_121 (lv_at hl 0 rfl) ?_
            refine lv_iconst (v := 4) C.1 C.2.1 dX11_attempt_123 (by decide) ?_
            refine lv_iadd C.1 C.2.1 dX11_attempt_124 ?_
            refine lv_iload C.1 C.2.1 dX11_attempt_125 (lv_at hl 7 rfl) ?_
            obtain ⟨hc26, hf⟩ := ea_ck_s hf
            refine ea_iast C hw (show ea_ok ids 114 20 from ok_11_27 (hY 100 11 rfl)) hc26 dX11_attempt_127 (fun H locs hw => ?_)
            refine lv_aload_n C.1 C.2.1 dX11_attempt_128 rfl (lv_at hl 2 rfl) ?_
            refine gf_X11_55 C hw (hY 100 11 rfl) dX11_attempt_129 ?_
            refine W.eq (g2 := F0 m 132 ls [.ref (E.1 114)]) rfl ?_
            refine lv_iload C.1 C.2.1 dX11_attempt_132 (lv_at hl 0 rfl) ?_
            refine lv_iconst (v := 5) C.1 C.2.1 dX11_attempt_134 (by decide) ?_
            refine lv_iadd C.1 C.2.1 dX11_attempt_135 ?_
            refine lv_iload C.1 C.2.1 dX11_attempt_136 (lv_at hl 8 rfl) ?_
            obtain ⟨hc27, hf⟩ := ea_ck_s hf
            refine ea_iast C hw (show ea_ok ids 114 20 from ok_11_27 (hY 100 11 rfl)) hc27 dX11_attempt_138 (fun H locs hw => ?_)
            refine lv_aload_n C.1 C.2.1 dX11_attempt_139 rfl (lv_at hl 2 rfl) ?_
            refine gf_X11_55 C hw (hY 100 11 rfl) dX11_attempt_140 ?_
            refine W.eq (g2 := F0 m 143 ls [.ref (E.1 114)]) rfl ?_
            refine lv_iconst (v := 1) C.1 C.2.1 dX11_attempt_143 (by decide) ?_
            refine lv_dup2_11 C.1 C.2.1 dX11_attempt_144 rfl rfl ?_
            refine ea_iald C hw (show ea_ok ids 114 20 from ok_11_27 (hY 100 11 rfl)) (by decide) dX11_attempt_145 ?_
            refine lv_iconst (v := 1) C.1 C.2.1 dX11_attempt_146 (by decide) ?_
            refine lv_iadd C.1 C.2.1 dX11_attempt_147 ?_
            refine ea_iast C hw (show ea_ok ids 114 20 from ok_11_27 (hY 100 11 rfl)) (by decide) dX11_attempt_148 (fun H locs hw => ?_)
            refine lv_iload C.1 C.2.1 dX11_attempt_149 (lv_at hl 1 rfl) ?_
            exact ea_iret C hw hf dX11_attempt_151
          · replace hf := ea_if_t hc19 hf
            refine lv_bipush (v := (-3 : Int32)) C.1 C.2.1 dX11_attempt_57 (by decide) ?_
            exact ea_iret C hw hf dX11_attempt_59
        · replace hf := ea_if_t hc16 hf
          refine lv_bipush (v := (-2 : Int32)) C.1 C.2.1 dX11_attempt_39 (by decide) ?_
          exact ea_iret C hw hf dX11_attempt_41
set_option maxHeartbeats 4000000 in
set_option maxRecDepth 20000 in
theorem mX11_attempt {l : Launch} {E : eE} {ids : List Nat} (hY : ea_Y ids) {x1 : Int32} {x2 : Int32} {x3 : Int32} {x4 : Int32} {x5 : Int32} {x6 : Int32} {M : eM} {res : Int32 × eM} (hf : fX11_attempt x1 x2 x3 x4 x5 x6 M = some res) : ea_Mi l yX11_attempt cX11_attempt 9 (some .int) 2 44 E ids [.ref (E.1 100), .int x1, .int x2, .int x3, .int x4, .int x5, .int x6] M res := by
  refine ea_goi (by decide) (Nat.le_of_ble_eq_true rfl) wc_X11_attempt ?_
  intro p e s m below meth cd ls C hw hl
  exact wX11_attempt_0 C hY _ _ _ _ _ _ _ _ _ _ hf hw hl
end SX11_attempt

def fX11_halved_0 (x0 : Int32) (x1 : Int32) (M : eM) : Option (Int32 × eM) := if x1 ≤ (30 : Int32) then (some (x0 >>> (x1 &&& 31), M)) else (some ((0 : Int32), M))
def fX11_halved (x0 : Int32) (x1 : Int32) (M : eM) : Option (Int32 × eM) := fX11_halved_0 x0 x1 M
section SX11_halved
variable {p : Program} {l : Launch} {e : Env} {s : State} {m : MethodId} {args : Array Value} {below : List Frame} {meth : Method} {cd : Code} {E : eE} {ids : List Nat} {res : Int32 × eM}
set_option maxHeartbeats 4000000 in
set_option maxRecDepth 20000 in
theorem wX11_halved_0 (C : ea_C p s m args meth cd cX11_halved 2 (some .int) RX11) (hY : ea_Y ids) : ∀ (x0 : Int32) (x1 : Int32) (M : eM) (H : Heap) (locs : List Loc) (ls : Array Slot), fX11_halved_0 x0 x1 M = some res → ea_w E ids M s H locs → lv_has ls 2 [(0, .int x0), (1, .int x1)] → W p l e (ea_rm 0 0) s m args below meth cd H locs 0 0 (MQ below (ea_Qi E ids res) args s 0 0 (ea_Ad E ids)) (F0 m 0 ls []) := by
  intro x0 x1 M H locs ls hf  hw hl
  replace hf := (fX11_halved_0.eq_1 ..).symm.trans hf
  refine lv_iload_n C.1 C.2.1 dX11_halved_0 rfl (lv_at hl 1 rfl) ?_
  refine lv_bipush (v := 30) C.1 C.2.1 dX11_halved_1 (by decide) ?_
  refine lv_icmp_le (tgt := 10) C.1 C.2.1 dX11_halved_3 (by decide) (fun hc1 => ?_) (fun hc1 => ?_)
  · replace hf := ea_if_t hc1 hf
    refine lv_iload_n C.1 C.2.1 dX11_halved_10 rfl (lv_at hl 0 rfl) ?_
    refine lv_iload_n C.1 C.2.1 dX11_halved_11 rfl (lv_at hl 1 rfl) ?_
    refine lv_ishr C.1 C.2.1 dX11_halved_12 ?_
    exact ea_iret C hw hf dX11_halved_13
  · replace hf := ea_if_f hc1 hf
    refine lv_iconst (v := 0) C.1 C.2.1 dX11_halved_6 (by decide) ?_
    refine lv_goto (tgt := 13) C.1 C.2.1 dX11_halved_7 (by decide) ?_
    exact ea_iret C hw hf dX11_halved_13
set_option maxHeartbeats 4000000 in
set_option maxRecDepth 20000 in
theorem mX11_halved {l : Launch} {E : eE} {ids : List Nat} (hY : ea_Y ids) {x0 : Int32} {x1 : Int32} {M : eM} {res : Int32 × eM} (hf : fX11_halved x0 x1 M = some res) : ea_Mi l yX11_halved cX11_halved 2 (some .int) 0 0 E ids [.int x0, .int x1] M res := by
  refine ea_goi (by decide) (Nat.le_of_ble_eq_true rfl) wc_X11_halved ?_
  intro p e s m below meth cd ls C hw hl
  exact wX11_halved_0 C hY _ _ _ _ _ _ hf hw hl
end SX11_halved

def fX11_strengthOf_0 (x1 : Int32) (x2 : Int32) (M : eM) : Option (Int32 × eM) := ea_ck (ea_ix (((6 : Int32) * x1) + (3 : Int32)) (ea_len 106)) (ea_ck (ea_ix (((6 : Int32) * x1) + (4 : Int32)) (ea_len 106)) (ea_ck (ea_nz (M.1 106 (((6 : Int32) * x1) + (4 : Int32)).toNatClampNeg)) (ea_ci (fX11_halved (M.1 106 (((6 : Int32) * x1) + (3 : Int32)).toNatClampNeg) (x2 / (M.1 106 (((6 : Int32) * x1) + (4 : Int32)).toNatClampNeg)) M) (fun r5 M6 => ea_ck (ea_ix (((6 : Int32) * x1) + (3 : Int32)) (ea_len 106)) (ea_ck (ea_ix (((6 : Int32) * x1) + (5 : Int32)) (ea_len 106)) (ea_ck (ea_nz (M6.1 106 (((6 : Int32) * x1) + (5 : Int32)).toNatClampNeg)) (ea_ci (fX11_halved ((1000 : Int32) - (M6.1 106 (((6 : Int32) * x1) + (3 : Int32)).toNatClampNeg)) (x2 / (M6.1 106 (((6 : Int32) * x1) + (5 : Int32)).toNatClampNeg)) M6) (fun r11 M12 => some (r5 + r11, M12)))))))))
def fX11_strengthOf (x1 : Int32) (x2 : Int32) (M : eM) : Option (Int32 × eM) := fX11_strengthOf_0 x1 x2 M
section SX11_strengthOf
variable {p : Program} {l : Launch} {e : Env} {s : State} {m : MethodId} {args : Array Value} {below : List Frame} {meth : Method} {cd : Code} {E : eE} {ids : List Nat} {res : Int32 × eM}
set_option maxHeartbeats 4000000 in
set_option maxRecDepth 20000 in
theorem wX11_strengthOf_0 (C : ea_C p s m args meth cd cX11_strengthOf 3 (some .int) RX11) (hY : ea_Y ids) : ∀ (x1 : Int32) (x2 : Int32) (M : eM) (H : Heap) (locs : List Loc) (ls : Array Slot), fX11_strengthOf_0 x1 x2 M = some res → ea_w E ids M s H locs → lv_has ls 3 [(0, .ref (E.1 100)), (1, .int x1), (2, .int x2)] → W p l e (ea_rm 1 21) s m args below meth cd H locs 0 0 (MQ below (ea_Qi E ids res) args s 0 0 (ea_Ad E ids)) (F0 m 0 ls []) := by
  intro x1 x2 M H locs ls hf  hw hl
  replace hf := (fX11_strengthOf_0.eq_1 ..).symm.trans hf
  refine lv_aload_n C.1 C.2.1 dX11_strengthOf_0 rfl (lv_at hl 0 rfl) ?_
  refine gf_X11_31 C hw (hY 100 11 rfl) dX11_strengthOf_1 ?_
  refine W.eq (g2 := F0 m 4 ls [.ref (E.1 106)]) rfl ?_
  refine lv_bipush (v := 6) C.1 C.2.1 dX11_strengthOf_4 (by decide) ?_
  refine lv_iload_n C.1 C.2.1 dX11_strengthOf_6 rfl (lv_at hl 1 rfl) ?_
  refine lv_imul C.1 C.2.1 dX11_strengthOf_7 ?_
  refine lv_iconst (v := 3) C.1 C.2.1 dX11_strengthOf_8 (by decide) ?_
  refine lv_iadd C.1 C.2.1 dX11_strengthOf_9 ?_
  obtain ⟨hc1, hf⟩ := ea_ck_s hf
  refine ea_iald C hw (show ea_ok ids 106 20 from ok_11_16 (hY 100 11 rfl)) hc1 dX11_strengthOf_10 ?_
  refine lv_iload_n C.1 C.2.1 dX11_strengthOf_11 rfl (lv_at hl 2 rfl) ?_
  refine lv_aload_n C.1 C.2.1 dX11_strengthOf_12 rfl (lv_at hl 0 rfl) ?_
  refine gf_X11_31 C hw (hY 100 11 rfl) dX11_strengthOf_13 ?_
  refine W.eq (g2 := F0 m 16 ls [.ref (E.1 106), .int x2, .int (M.1 106 (((6 : Int32) * x1) + (3 : Int32)).toNatClampNeg)]) rfl ?_
  refine lv_bipush (v := 6) C.1 C.2.1 dX11_strengthOf_16 (by decide) ?_
  refine lv_iload_n C.1 C.2.1 dX11_strengthOf_18 rfl (lv_at hl 1 rfl) ?_
  refine lv_imul C.1 C.2.1 dX11_strengthOf_19 ?_
  refine lv_iconst (v := 4) C.1 C.2.1 dX11_strengthOf_20 (by decide) ?_
  refine lv_iadd C.1 C.2.1 dX11_strengthOf_21 ?_
  obtain ⟨hc2, hf⟩ := ea_ck_s hf
  refine ea_iald C hw (show ea_ok ids 106 20 from ok_11_16 (hY 100 11 rfl)) hc2 dX11_strengthOf_22 ?_
  obtain ⟨hc3, hf⟩ := ea_ck_s hf
  refine lv_idiv C.1 C.2.1 dX11_strengthOf_23 (ea_nz_s hc3) ?_
  obtain ⟨r5, M6, he4, hf⟩ := ea_ci_s hf
  refine ea_runi2 hw (cl_X11_228 C hw (As := [.int (M.1 106 (((6 : Int32) * x1) + (3 : Int32)).toNatClampNeg), .int (x2 / (M.1 106 (((6 : Int32) * x1) + (4 : Int32)).toNatClampNeg))]) (rest := []) (mX11_halved (l := l) (E := E) (ids := ids) hY he4) (by decide) rfl hl.1 rfl (Nat.le_of_ble_eq_true rfl) dX11_strengthOf_24 ⟨Nat.le_refl _, Nat.le_refl _⟩) (fun H locs hw => ?_)
  refine lv_sipush (v := 1000) C.1 C.2.1 dX11_strengthOf_27 (by decide) ?_
  refine lv_aload_n C.1 C.2.1 dX11_strengthOf_30 rfl (lv_at hl 0 rfl) ?_
  refine gf_X11_31 C hw (hY 100 11 rfl) dX11_strengthOf_31 ?_
  refine W.eq (g2 := F0 m 34 ls [.ref (E.1 106), .int (1000 : Int32), .int r5]) rfl ?_
  refine lv_bipush (v := 6) C.1 C.2.1 dX11_strengthOf_34 (by decide) ?_
  refine lv_iload_n C.1 C.2.1 dX11_strengthOf_36 rfl (lv_at hl 1 rfl) ?_
  refine lv_imul C.1 C.2.1 dX11_strengthOf_37 ?_
  refine lv_iconst (v := 3) C.1 C.2.1 dX11_strengthOf_38 (by decide) ?_
  refine lv_iadd C.1 C.2.1 dX11_strengthOf_39 ?_
  obtain ⟨hc7, hf⟩ := ea_ck_s hf
  refine ea_iald C hw (show ea_ok ids 106 20 from ok_11_16 (hY 100 11 rfl)) hc7 dX11_strengthOf_40 ?_
  refine lv_isub C.1 C.2.1 dX11_strengthOf_41 ?_
  refine lv_iload_n C.1 C.2.1 dX11_strengthOf_42 rfl (lv_at hl 2 rfl) ?_
  refine lv_aload_n C.1 C.2.1 dX11_strengthOf_43 rfl (lv_at hl 0 rfl) ?_
  refine gf_X11_31 C hw (hY 100 11 rfl) dX11_strengthOf_44 ?_
  refine W.eq (g2 := F0 m 47 ls [.ref (E.1 106), .int x2, .int ((1000 : Int32) - (M6.1 106 (((6 : Int32) * x1) + (3 : Int32)).toNatClampNeg)), .int r5]) rfl ?_
  refine lv_bipush (v := 6) C.1 C.2.1 dX11_strengthOf_47 (by decide) ?_
  refine lv_iload_n C.1 C.2.1 dX11_strengthOf_49 rfl (lv_at hl 1 rfl) ?_
  refine lv_imul C.1 C.2.1 dX11_strengthOf_50 ?_
  refine lv_iconst (v := 5) C.1 C.2.1 dX11_strengthOf_51 (by decide) ?_
  refine lv_iadd C.1 C.2.1 dX11_strengthOf_52 ?_
  obtain ⟨hc8, hf⟩ := ea_ck_s hf
  refine ea_iald C hw (show ea_ok ids 106 20 from ok_11_16 (hY 100 11 rfl)) hc8 dX11_strengthOf_53 ?_
  obtain ⟨hc9, hf⟩ := ea_ck_s hf
  refine lv_idiv C.1 C.2.1 dX11_strengthOf_54 (ea_nz_s hc9) ?_
  obtain ⟨r11, M12, he10, hf⟩ := ea_ci_s hf
  refine ea_runi2 hw (cl_X11_228 C hw (As := [.int ((1000 : Int32) - (M6.1 106 (((6 : Int32) * x1) + (3 : Int32)).toNatClampNeg)), .int (x2 / (M6.1 106 (((6 : Int32) * x1) + (5 : Int32)).toNatClampNeg))]) (rest := [.int r5]) (mX11_halved (l := l) (E := E) (ids := ids) hY he10) (by decide) rfl hl.1 rfl (Nat.le_of_ble_eq_true rfl) dX11_strengthOf_55 ⟨Nat.le_refl _, Nat.le_refl _⟩) (fun H locs hw => ?_)
  refine lv_iadd C.1 C.2.1 dX11_strengthOf_58 ?_
  exact ea_iret C hw hf dX11_strengthOf_59
set_option maxHeartbeats 4000000 in
set_option maxRecDepth 20000 in
theorem mX11_strengthOf {l : Launch} {E : eE} {ids : List Nat} (hY : ea_Y ids) {x1 : Int32} {x2 : Int32} {M : eM} {res : Int32 × eM} (hf : fX11_strengthOf x1 x2 M = some res) : ea_Mi l yX11_strengthOf cX11_strengthOf 3 (some .int) 1 21 E ids [.ref (E.1 100), .int x1, .int x2] M res := by
  refine ea_goi (by decide) (Nat.le_of_ble_eq_true rfl) wc_X11_strengthOf ?_
  intro p e s m below meth cd ls C hw hl
  exact wX11_strengthOf_0 C hY _ _ _ _ _ _ hf hw hl
end SX11_strengthOf

def fX11_partOf_0 (x1 : Int32) (x2 : Int32) (x3 : Int32) (x4 : Int32) (M : eM) : Option (Int32 × eM) := ea_ck (ea_ix (((6 : Int32) * x1) + x4) (ea_len 106)) (ea_ci (fX11_strengthOf x1 x3 M) (fun r3 M4 => some (((x2 * (M.1 106 (((6 : Int32) * x1) + x4).toNatClampNeg)) * r3) / (9000 : Int32), M4)))
def fX11_partOf (x1 : Int32) (x2 : Int32) (x3 : Int32) (x4 : Int32) (M : eM) : Option (Int32 × eM) := fX11_partOf_0 x1 x2 x3 x4 M
section SX11_partOf
variable {p : Program} {l : Launch} {e : Env} {s : State} {m : MethodId} {args : Array Value} {below : List Frame} {meth : Method} {cd : Code} {E : eE} {ids : List Nat} {res : Int32 × eM}
set_option maxHeartbeats 4000000 in
set_option maxRecDepth 20000 in
theorem wX11_partOf_0 (C : ea_C p s m args meth cd cX11_partOf 5 (some .int) RX11) (hY : ea_Y ids) : ∀ (x1 : Int32) (x2 : Int32) (x3 : Int32) (x4 : Int32) (M : eM) (H : Heap) (locs : List Loc) (ls : Array Slot), fX11_partOf_0 x1 x2 x3 x4 M = some res → ea_w E ids M s H locs → lv_has ls 5 [(0, .ref (E.1 100)), (1, .int x1), (2, .int x2), (3, .int x3), (4, .int x4)] → W p l e (ea_rm 2 43) s m args below meth cd H locs 0 0 (MQ below (ea_Qi E ids res) args s 0 0 (ea_Ad E ids)) (F0 m 0 ls []) := by
  intro x1 x2 x3 x4 M H locs ls hf  hw hl
  replace hf := (fX11_partOf_0.eq_1 ..).symm.trans hf
  refine lv_iload_n C.1 C.2.1 dX11_partOf_0 rfl (lv_at hl 2 rfl) ?_
  refine lv_aload_n C.1 C.2.1 dX11_partOf_1 rfl (lv_at hl 0 rfl) ?_
  refine gf_X11_31 C hw (hY 100 11 rfl) dX11_partOf_2 ?_
  refine W.eq (g2 := F0 m 5 ls [.ref (E.1 106), .int x2]) rfl ?_
  refine lv_bipush (v := 6) C.1 C.2.1 dX11_partOf_5 (by decide) ?_
  refine lv_iload_n C.1 C.2.1 dX11_partOf_7 rfl (lv_at hl 1 rfl) ?_
  refine lv_imul C.1 C.2.1 dX11_partOf_8 ?_
  refine lv_iload C.1 C.2.1 dX11_partOf_9 (lv_at hl 4 rfl) ?_
  refine lv_iadd C.1 C.2.1 dX11_partOf_11 ?_
  obtain ⟨hc1, hf⟩ := ea_ck_s hf
  refine ea_iald C hw (show ea_ok ids 106 20 from ok_11_16 (hY 100 11 rfl)) hc1 dX11_partOf_12 ?_
  refine lv_imul C.1 C.2.1 dX11_partOf_13 ?_
  refine lv_aload_n C.1 C.2.1 dX11_partOf_14 rfl (lv_at hl 0 rfl) ?_
  refine lv_iload_n C.1 C.2.1 dX11_partOf_15 rfl (lv_at hl 1 rfl) ?_
  refine lv_iload_n C.1 C.2.1 dX11_partOf_16 rfl (lv_at hl 3 rfl) ?_
  obtain ⟨r3, M4, he2, hf⟩ := ea_ci_s hf
  refine ea_runi2 hw (cl_X11_238 C hw (hY 100 11 rfl) (As := [.int x1, .int x3]) (rest := [.int (x2 * (M.1 106 (((6 : Int32) * x1) + x4).toNatClampNeg))]) (mX11_strengthOf (l := l) (E := E) (ids := ids) hY he2) (by decide) rfl hl.1 rfl (Nat.le_of_ble_eq_true rfl) dX11_partOf_17 ⟨Nat.le_refl _, Nat.le_refl _⟩) (fun H locs hw => ?_)
  refine lv_imul C.1 C.2.1 dX11_partOf_20 ?_
  refine lv_sipush (v := 9000) C.1 C.2.1 dX11_partOf_21 (by decide) ?_
  refine lv_idiv C.1 C.2.1 dX11_partOf_24 (by decide) ?_
  exact ea_iret C hw hf dX11_partOf_25
set_option maxHeartbeats 4000000 in
set_option maxRecDepth 20000 in
theorem mX11_partOf {l : Launch} {E : eE} {ids : List Nat} (hY : ea_Y ids) {x1 : Int32} {x2 : Int32} {x3 : Int32} {x4 : Int32} {M : eM} {res : Int32 × eM} (hf : fX11_partOf x1 x2 x3 x4 M = some res) : ea_Mi l yX11_partOf cX11_partOf 5 (some .int) 2 43 E ids [.ref (E.1 100), .int x1, .int x2, .int x3, .int x4] M res := by
  refine ea_goi (by decide) (Nat.le_of_ble_eq_true rfl) wc_X11_partOf ?_
  intro p e s m below meth cd ls C hw hl
  exact wX11_partOf_0 C hY _ _ _ _ _ _ _ _ hf hw hl
end SX11_partOf
