def fX11_isAsked_0 (x1 : Int32) (x2 : Int32) (x3 : Int32) (M : eM) : Option (Int32 × eM) := ea_ci (fX11_isCell x1 M) (fun r2 M3 => if r2 = 0 then (some ((0 : Int32), M3)) else (ea_ci (fX11_isStory x2 M3) (fun r6 M7 => if r6 = 0 then (some ((0 : Int32), M7)) else (ea_ci (fX11_isStep x3 M7) (fun r10 M11 => if r10 = 0 then (some ((0 : Int32), M11)) else (some ((1 : Int32), M11)))))))
def fX11_isAsked (x1 : Int32) (x2 : Int32) (x3 : Int32) (M : eM) : Option (Int32 × eM) := fX11_isAsked_0 x1 x2 x3 M
section SX11_isAsked
variable {p : Program} {l : Launch} {e : Env} {s : State} {m : MethodId} {args : Array Value} {below : List Frame} {meth : Method} {cd : Code} {E : eE} {ids : List Nat} {res : Int32 × eM}
set_option maxHeartbeats 4000000 in
set_option maxRecDepth 20000 in
theorem wX11_isAsked_0 (C : ea_C p s m args meth cd cX11_isAsked 4 (some .boolean) RX11) (hY : ea_Y ids) : ∀ (x1 : Int32) (x2 : Int32) (x3 : Int32) (M : eM) (H : Heap) (locs : List Loc) (ls : Array Slot), fX11_isAsked_0 x1 x2 x3 M = some res → ea_w E ids M s H locs → lv_has ls 4 [(0, .ref (E.1 100)), (1, .int x1), (2, .int x2), (3, .int x3)] → W p l e (ea_rm 2 43) s m args below meth cd H locs 0 0 (MQ below (ea_Qi E ids res) args s 0 0 (ea_Ad E ids)) (F0 m 0 ls []) := by
  intro x1 x2 x3 M H locs ls hf  hw hl
  replace hf := (fX11_isAsked_0.eq_1 ..).symm.trans hf
  refine lv_aload_n C.1 C.2.1 dX11_isAsked_0 rfl (lv_at hl 0 rfl) ?_
  refine lv_iload_n C.1 C.2.1 dX11_isAsked_1 rfl (lv_at hl 1 rfl) ?_
  obtain ⟨r2, M3, he1, hf⟩ := ea_ci_s hf
  refine ea_runi2 hw (cl_X11_264 C hw (hY 100 11 rfl) (As := [.int x1]) (rest := []) (mX11_isCell (l := l) (E := E) (ids := ids) hY he1) (by decide) rfl hl.1 rfl (Nat.le_of_ble_eq_true rfl) dX11_isAsked_2 ⟨Nat.le_refl _, Nat.le_refl _⟩) (fun H locs hw => ?_)
  refine lv_if_eq (tgt := 27) C.1 C.2.1 dX11_isAsked_5 (by decide) (fun hc4 => ?_) (fun hc4 => ?_)
  · replace hf := ea_if_t hc4 hf
    refine lv_iconst (v := 0) C.1 C.2.1 dX11_isAsked_27 (by decide) ?_
    exact ea_zret C hw (by decide) hf dX11_isAsked_28
  · replace hf := ea_if_f hc4 hf
    refine lv_aload_n C.1 C.2.1 dX11_isAsked_8 rfl (lv_at hl 0 rfl) ?_
    refine lv_iload_n C.1 C.2.1 dX11_isAsked_9 rfl (lv_at hl 2 rfl) ?_
    obtain ⟨r6, M7, he5, hf⟩ := ea_ci_s hf
    refine ea_runi2 hw (cl_X11_225 C hw (hY 100 11 rfl) (As := [.int x2]) (rest := []) (mX11_isStory (l := l) (E := E) (ids := ids) hY he5) (by decide) rfl hl.1 rfl (Nat.le_of_ble_eq_true rfl) dX11_isAsked_10 ⟨Nat.le_refl _, Nat.le_refl _⟩) (fun H locs hw => ?_)
    refine lv_if_eq (tgt := 27) C.1 C.2.1 dX11_isAsked_13 (by decide) (fun hc8 => ?_) (fun hc8 => ?_)
    · replace hf := ea_if_t hc8 hf
      refine lv_iconst (v := 0) C.1 C.2.1 dX11_isAsked_27 (by decide) ?_
      exact ea_zret C hw (by decide) hf dX11_isAsked_28
    · replace hf := ea_if_f hc8 hf
      refine lv_iload_n C.1 C.2.1 dX11_isAsked_16 rfl (lv_at hl 3 rfl) ?_
      obtain ⟨r10, M11, he9, hf⟩ := ea_ci_s hf
      refine ea_runi2 hw (cl_X11_274 C hw (As := [.int x3]) (rest := []) (mX11_isStep (l := l) (E := E) (ids := ids) hY he9) (by decide) rfl hl.1 rfl (Nat.le_of_ble_eq_true rfl) dX11_isAsked_17 ⟨Nat.le_refl _, Nat.le_refl _⟩) (fun H locs hw => ?_)
      refine lv_if_eq (tgt := 27) C.1 C.2.1 dX11_isAsked_20 (by decide) (fun hc12 => ?_) (fun hc12 => ?_)
      · replace hf := ea_if_t hc12 hf
        refine lv_iconst (v := 0) C.1 C.2.1 dX11_isAsked_27 (by decide) ?_
        exact ea_zret C hw (by decide) hf dX11_isAsked_28
      · replace hf := ea_if_f hc12 hf
        refine lv_iconst (v := 1) C.1 C.2.1 dX11_isAsked_23 (by decide) ?_
        refine lv_goto (tgt := 28) C.1 C.2.1 dX11_isAsked_24 (by decide) ?_
        exact ea_zret C hw (by decide) hf dX11_isAsked_28
set_option maxHeartbeats 4000000 in
set_option maxRecDepth 20000 in
theorem mX11_isAsked {l : Launch} {E : eE} {ids : List Nat} (hY : ea_Y ids) {x1 : Int32} {x2 : Int32} {x3 : Int32} {M : eM} {res : Int32 × eM} (hf : fX11_isAsked x1 x2 x3 M = some res) : ea_Mi l yX11_isAsked cX11_isAsked 4 (some .boolean) 2 43 E ids [.ref (E.1 100), .int x1, .int x2, .int x3] M res := by
  refine ea_goi (by decide) (Nat.le_of_ble_eq_true rfl) wc_X11_isAsked ?_
  intro p e s m below meth cd ls C hw hl
  exact wX11_isAsked_0 C hY _ _ _ _ _ _ _ hf hw hl
end SX11_isAsked

def fX11_onlyThread_0 (x1 : Int32) (x2 : Int32) (x3 : Int32) (M : eM) : Option (Int32 × eM) := ea_cv (fX11_findFits x1 x2 x3 M) (fun M2 => if (M2.1 100 34) = (1 : Int32) then (some (M2.1 119 (0 : Int32).toNatClampNeg, M2)) else (some ((-1 : Int32), M2)))
def fX11_onlyThread (x1 : Int32) (x2 : Int32) (x3 : Int32) (M : eM) : Option (Int32 × eM) := fX11_onlyThread_0 x1 x2 x3 M
section SX11_onlyThread
variable {p : Program} {l : Launch} {e : Env} {s : State} {m : MethodId} {args : Array Value} {below : List Frame} {meth : Method} {cd : Code} {E : eE} {ids : List Nat} {res : Int32 × eM}
set_option maxHeartbeats 4000000 in
set_option maxRecDepth 20000 in
theorem wX11_onlyThread_0 (C : ea_C p s m args meth cd cX11_onlyThread 4 (some .int) RX11) (hY : ea_Y ids) : ∀ (x1 : Int32) (x2 : Int32) (x3 : Int32) (M : eM) (H : Heap) (locs : List Loc) (ls : Array Slot), fX11_onlyThread_0 x1 x2 x3 M = some res → ea_w E ids M s H locs → lv_has ls 4 [(0, .ref (E.1 100)), (1, .int x1), (2, .int x2), (3, .int x3)] → W p l e (ea_rm 6 143) s m args below meth cd H locs 0 0 (MQ below (ea_Qi E ids res) args s 0 0 (ea_Ad E ids)) (F0 m 0 ls []) := by
  intro x1 x2 x3 M H locs ls hf  hw hl
  replace hf := (fX11_onlyThread_0.eq_1 ..).symm.trans hf
  refine lv_aload_n C.1 C.2.1 dX11_onlyThread_0 rfl (lv_at hl 0 rfl) ?_
  refine lv_iload_n C.1 C.2.1 dX11_onlyThread_1 rfl (lv_at hl 1 rfl) ?_
  refine lv_iload_n C.1 C.2.1 dX11_onlyThread_2 rfl (lv_at hl 2 rfl) ?_
  refine lv_iload_n C.1 C.2.1 dX11_onlyThread_3 rfl (lv_at hl 3 rfl) ?_
  obtain ⟨M2, he1, hf⟩ := ea_cv_s hf
  refine ea_runv hw (cl_X11_313 C hw (hY 100 11 rfl) (As := [.int x1, .int x2, .int x3]) (rest := []) (mX11_findFits (l := l) (E := E) (ids := ids) hY he1) (by decide) rfl hl.1 rfl (Nat.le_of_ble_eq_true rfl) dX11_onlyThread_4 ⟨Nat.le_refl _, Nat.le_refl _⟩) (fun H locs hw => ?_)
  refine lv_aload_n C.1 C.2.1 dX11_onlyThread_7 rfl (lv_at hl 0 rfl) ?_
  refine gf_X11_303 C hw (hY 100 11 rfl) dX11_onlyThread_8 ?_
  refine lv_iconst (v := 1) C.1 C.2.1 dX11_onlyThread_11 (by decide) ?_
  refine lv_icmp_ne (tgt := 24) C.1 C.2.1 dX11_onlyThread_12 (by decide) (fun hc3 => ?_) (fun hc3 => ?_)
  · replace hf := ea_if_f hc3 hf
    refine lv_iconst (v := (-1 : Int32)) C.1 C.2.1 dX11_onlyThread_24 (by decide) ?_
    exact ea_iret C hw hf dX11_onlyThread_25
  · replace hf := ea_if_t hc3 hf
    refine lv_aload_n C.1 C.2.1 dX11_onlyThread_15 rfl (lv_at hl 0 rfl) ?_
    refine gf_X11_71 C hw (hY 100 11 rfl) dX11_onlyThread_16 ?_
    refine W.eq (g2 := F0 m 19 ls [.ref (E.1 119)]) rfl ?_
    refine lv_iconst (v := 0) C.1 C.2.1 dX11_onlyThread_19 (by decide) ?_
    refine ea_iald C hw (show ea_ok ids 119 20 from ok_11_35 (hY 100 11 rfl)) (by decide) dX11_onlyThread_20 ?_
    refine lv_goto (tgt := 25) C.1 C.2.1 dX11_onlyThread_21 (by decide) ?_
    exact ea_iret C hw hf dX11_onlyThread_25
set_option maxHeartbeats 4000000 in
set_option maxRecDepth 20000 in
theorem mX11_onlyThread {l : Launch} {E : eE} {ids : List Nat} (hY : ea_Y ids) {x1 : Int32} {x2 : Int32} {x3 : Int32} {M : eM} {res : Int32 × eM} (hf : fX11_onlyThread x1 x2 x3 M = some res) : ea_Mi l yX11_onlyThread cX11_onlyThread 4 (some .int) 6 143 E ids [.ref (E.1 100), .int x1, .int x2, .int x3] M res := by
  refine ea_goi (by decide) (Nat.le_of_ble_eq_true rfl) wc_X11_onlyThread ?_
  intro p e s m below meth cd ls C hw hl
  exact wX11_onlyThread_0 C hY _ _ _ _ _ _ _ hf hw hl
end SX11_onlyThread

def fX11_beside_139 (k61 : Int32 → Int32 → Int32 → Int32 → Int32 → Int32 → Int32 → Int32 → eM → Option (Int32 × eM)) (x1 : Int32) (x2 : Int32) (x3 : Int32) (x4 : Int32) (x5 : Int32) (x6 : Int32) (x7 : Int32) (x8 : Int32) (M : eM) : Option (Int32 × eM) := k61 x1 x2 x3 x4 x5 x6 x7 (x8 + (1 : Int32)) M
def fX11_beside_61 (k145 : Int32 → Int32 → Int32 → Int32 → Int32 → Int32 → Int32 → eM → Option (Int32 × eM)) : Nat → Int32 → Int32 → Int32 → Int32 → Int32 → Int32 → Int32 → Int32 → eM → Option (Int32 × eM)
  | 0, _, _, _, _, _, _, _, _, _ => none
  | n + 1, x1, x2, x3, x4, x5, x6, x7, x8, M => ea_ck (ea_nz x5) (if ((x1 - x1 / x5 * x5) + (1 : Int32)) < x8 then (k145 x1 x2 x3 x4 x5 x6 x7 M) else (ea_ci (fX11_in x7 (0 : Int32) ((M.1 102 (1 : Int32).toNatClampNeg) - (1 : Int32)) M) (fun r4 M5 => if r4 = 0 then (fX11_beside_139 (fX11_beside_61 k145 n) x1 x2 x3 x4 x5 x6 x7 x8 M5) else (ea_ci (fX11_in x8 (0 : Int32) (x5 - (1 : Int32)) M5) (fun r8 M9 => if r8 = 0 then (fX11_beside_139 (fX11_beside_61 k145 n) x1 x2 x3 x4 x5 x6 x7 x8 M9) else (if ((x5 * x7) + x8) = x1 then (fX11_beside_139 (fX11_beside_61 k145 n) x1 x2 x3 x4 x5 x6 x7 x8 M9) else (ea_ci (fX11_onlyThread ((x5 * x7) + x8) x2 x3 M9) (fun r13 M14 => ea_ck (ea_ix x6 (ea_len 127)) (fX11_beside_139 (fX11_beside_61 k145 n) x1 x2 x3 x4 x5 (x6 + (1 : Int32)) x7 x8 (ea_pI M14 127 (x6.toNatClampNeg) r13))))))))))
def fX11_beside_145 (k42 : Int32 → Int32 → Int32 → Int32 → Int32 → Int32 → Int32 → eM → Option (Int32 × eM)) (x1 : Int32) (x2 : Int32) (x3 : Int32) (x4 : Int32) (x5 : Int32) (x6 : Int32) (x7 : Int32) (M : eM) : Option (Int32 × eM) := k42 x1 x2 x3 x4 x5 x6 (x7 + (1 : Int32)) M
def fX11_beside_42 (k151 : Int32 → Int32 → eM → Option (Int32 × eM)) : Nat → Int32 → Int32 → Int32 → Int32 → Int32 → Int32 → Int32 → eM → Option (Int32 × eM)
  | 0, _, _, _, _, _, _, _, _ => none
  | n + 1, x1, x2, x3, x4, x5, x6, x7, M => ea_ck (ea_nz x5) (if ((x1 / x5) + (1 : Int32)) < x7 then (k151 x4 x6 M) else (ea_ck (ea_nz x5) (ea_lt ((x1 - x1 / x5 * x5) - (1 : Int32)) (fun y4 => fX11_beside_61 (fX11_beside_145 (fX11_beside_42 k151 n)) ea_N x1 x2 x3 x4 x5 x6 x7 y4 M))))
def fX11_beside_223 (k182 : Int32 → Int32 → Int32 → Int32 → Int32 → Int32 → Int32 → eM → Option (Int32 × eM)) (x4 : Int32) (x6 : Int32) (x7 : Int32) (x8 : Int32) (x9 : Int32) (x11 : Int32) (t0 : Int32) (t1 : Int32) (M : eM) : Option (Int32 × eM) := k182 x4 x6 x7 x8 x9 (t1 + t0) (x11 + (1 : Int32)) M
def fX11_beside_182 (k232 : Int32 → Int32 → Int32 → Int32 → Int32 → Int32 → eM → Option (Int32 × eM)) : Nat → Int32 → Int32 → Int32 → Int32 → Int32 → Int32 → Int32 → eM → Option (Int32 × eM)
  | 0, _, _, _, _, _, _, _, _ => none
  | n + 1, x4, x6, x7, x8, x9, x10, x11, M => if x6 ≤ x11 then (k232 x4 x6 x7 x8 x9 x10 M) else (ea_ck (ea_ix x9 (ea_len 127)) (if (M.1 127 x9.toNatClampNeg) < 0 then (k232 x4 x6 x7 x8 x9 x10 M) else (ea_ck (ea_ix x11 (ea_len 127)) (ea_ck (ea_ix x9 (ea_len 127)) (if (M.1 127 x11.toNatClampNeg) = (M.1 127 x9.toNatClampNeg) then (fX11_beside_223 (fX11_beside_182 k232 n) x4 x6 x7 x8 x9 x11 (1 : Int32) x10 M) else (fX11_beside_223 (fX11_beside_182 k232 n) x4 x6 x7 x8 x9 x11 (0 : Int32) x10 M))))))
def fX11_beside_279 (k169 : Int32 → Int32 → Int32 → Int32 → Int32 → eM → Option (Int32 × eM)) (x4 : Int32) (x6 : Int32) (x7 : Int32) (x8 : Int32) (x9 : Int32) (M : eM) : Option (Int32 × eM) := k169 x4 x6 x7 x8 (x9 + (1 : Int32)) M
def fX11_beside_266 (k169 : Int32 → Int32 → Int32 → Int32 → Int32 → eM → Option (Int32 × eM)) (x4 : Int32) (x6 : Int32) (x9 : Int32) (x10 : Int32) (M : eM) : Option (Int32 × eM) := ea_ck (ea_ix x9 (ea_len 127)) (fX11_beside_279 k169 x4 x6 (M.1 127 x9.toNatClampNeg) x10 x9 M)
def fX11_beside_232 (k169 : Int32 → Int32 → Int32 → Int32 → Int32 → eM → Option (Int32 × eM)) (x4 : Int32) (x6 : Int32) (x7 : Int32) (x8 : Int32) (x9 : Int32) (x10 : Int32) (M : eM) : Option (Int32 × eM) := if x10 = 0 then (fX11_beside_279 k169 x4 x6 x7 x8 x9 M) else (if x10 < x8 then (fX11_beside_279 k169 x4 x6 x7 x8 x9 M) else (if x10 = x8 then (ea_ck (ea_ix x9 (ea_len 127)) (if (M.1 127 x9.toNatClampNeg) < x7 then (fX11_beside_266 k169 x4 x6 x9 x10 M) else (fX11_beside_279 k169 x4 x6 x7 x8 x9 M))) else (fX11_beside_266 k169 x4 x6 x9 x10 M)))
def fX11_beside_169 (k285 : Int32 → Int32 → Int32 → eM → Option (Int32 × eM)) : Nat → Int32 → Int32 → Int32 → Int32 → Int32 → eM → Option (Int32 × eM)
  | 0, _, _, _, _, _, _ => none
  | n + 1, x4, x6, x7, x8, x9, M => if x6 ≤ x9 then (k285 x4 x7 x8 M) else (fX11_beside_182 (fX11_beside_232 (fX11_beside_169 k285 n)) ea_N x4 x6 x7 x8 x9 (0 : Int32) (0 : Int32) M)
def fX11_beside_285 (x4 : Int32) (x7 : Int32) (x8 : Int32) (M : eM) : Option (Int32 × eM) := if x4 = 0 then (some (x7, M)) else (some (x8, M))
def fX11_beside_151 (x4 : Int32) (x6 : Int32) (M : eM) : Option (Int32 × eM) := if x4 = (2 : Int32) then (some (x6, M)) else (fX11_beside_169 (fX11_beside_285) ea_N x4 x6 (-1 : Int32) (0 : Int32) (0 : Int32) M)
def fX11_beside_0 (x1 : Int32) (x2 : Int32) (x3 : Int32) (x4 : Int32) (M : eM) : Option (Int32 × eM) := ea_ci (fX11_isAsked x1 x2 x3 M) (fun r2 M3 => if r2 = 0 then (some ((-2 : Int32), M3)) else (ea_ci (fX11_in x4 (0 : Int32) (2 : Int32) M3) (fun r6 M7 => if r6 = 0 then (some ((-2 : Int32), M7)) else (ea_lt (M7.1 102 (0 : Int32).toNatClampNeg) (fun y9 => ea_ck (ea_nz y9) (fX11_beside_42 (fX11_beside_151) ea_N x1 x2 x3 x4 y9 (0 : Int32) ((x1 / y9) - (1 : Int32)) M7))))))
def fX11_beside (x1 : Int32) (x2 : Int32) (x3 : Int32) (x4 : Int32) (M : eM) : Option (Int32 × eM) := fX11_beside_0 x1 x2 x3 x4 M
section SX11_beside
variable {p : Program} {l : Launch} {e : Env} {s : State} {m : MethodId} {args : Array Value} {below : List Frame} {meth : Method} {cd : Code} {E : eE} {ids : List Nat} {res : Int32 × eM}
set_option maxHeartbeats 4000000 in
set_option maxRecDepth 20000 in
theorem wX11_beside_139 (C : ea_C p s m args meth cd cX11_beside 12 (some .int) RX11) (hY : ea_Y ids) {k61 : Int32 → Int32 → Int32 → Int32 → Int32 → Int32 → Int32 → Int32 → eM → Option (Int32 × eM)} (hk61 : ∀ (x1 : Int32) (x2 : Int32) (x3 : Int32) (x4 : Int32) (x5 : Int32) (x6 : Int32) (x7 : Int32) (x8 : Int32) (M : eM) (H : Heap) (locs : List Loc) (ls : Array Slot), k61 x1 x2 x3 x4 x5 x6 x7 x8 M = some res → ea_w E ids M s H locs → lv_has ls 12 [(0, .ref (E.1 100)), (1, .int x1), (2, .int x2), (3, .int x3), (4, .int x4), (5, .int x5), (6, .int x6), (7, .int x7), (8, .int x8)] → W p l e (ea_rm 7 166) s m args below meth cd H locs 0 0 (MQ below (ea_Qi E ids res) args s 0 0 (ea_Ad E ids)) (F0 m 61 ls [])) : ∀ (x1 : Int32) (x2 : Int32) (x3 : Int32) (x4 : Int32) (x5 : Int32) (x6 : Int32) (x7 : Int32) (x8 : Int32) (M : eM) (H : Heap) (locs : List Loc) (ls : Array Slot), fX11_beside_139 k61 x1 x2 x3 x4 x5 x6 x7 x8 M = some res → ea_w E ids M s H locs → lv_has ls 12 [(0, .ref (E.1 100)), (1, .int x1), (2, .int x2), (3, .int x3), (4, .int x4), (5, .int x5), (6, .int x6), (7, .int x7), (8, .int x8)] → W p l e (ea_rm 7 166) s m args below meth cd H locs 0 0 (MQ below (ea_Qi E ids res) args s 0 0 (ea_Ad E ids)) (F0 m 139 ls []) := by
  intro x1 x2 x3 x4 x5 x6 x7 x8 M H locs ls hf  hw hl
  replace hf := (fX11_beside_139.eq_1 ..).symm.trans hf
  refine lv_iinc (v := x8 + (1 : Int32)) (lv' := [(8, .int (x8 + (1 : Int32))), (0, .ref (E.1 100)), (1, .int x1), (2, .int x2), (3, .int x3), (4, .int x4), (5, .int x5), (6, .int x6), (7, .int x7)]) C.1 C.2.1 dX11_beside_139 hl (k := 8) rfl rfl (by decide) rfl (fun ls hl => ?_)
  refine lv_goto (tgt := 61) C.1 C.2.1 dX11_beside_142 (by decide) ?_
  exact hk61 _ _ _ _ _ _ _ _ _ _ _ _ hf hw (lv_sub hl [1, 2, 3, 4, 5, 6, 7, 8, 0] rfl)
set_option maxHeartbeats 4000000 in
set_option maxRecDepth 20000 in
theorem wX11_beside_61 (C : ea_C p s m args meth cd cX11_beside 12 (some .int) RX11) (hY : ea_Y ids) {k145 : Int32 → Int32 → Int32 → Int32 → Int32 → Int32 → Int32 → eM → Option (Int32 × eM)} (hk145 : ∀ (x1 : Int32) (x2 : Int32) (x3 : Int32) (x4 : Int32) (x5 : Int32) (x6 : Int32) (x7 : Int32) (M : eM) (H : Heap) (locs : List Loc) (ls : Array Slot), k145 x1 x2 x3 x4 x5 x6 x7 M = some res → ea_w E ids M s H locs → lv_has ls 12 [(0, .ref (E.1 100)), (1, .int x1), (2, .int x2), (3, .int x3), (4, .int x4), (5, .int x5), (6, .int x6), (7, .int x7)] → W p l e (ea_rm 7 166) s m args below meth cd H locs 0 0 (MQ below (ea_Qi E ids res) args s 0 0 (ea_Ad E ids)) (F0 m 145 ls [])) : ∀ (n : Nat) (x1 : Int32) (x2 : Int32) (x3 : Int32) (x4 : Int32) (x5 : Int32) (x6 : Int32) (x7 : Int32) (x8 : Int32) (M : eM) (H : Heap) (locs : List Loc) (ls : Array Slot), fX11_beside_61 k145 n x1 x2 x3 x4 x5 x6 x7 x8 M = some res → ea_w E ids M s H locs → lv_has ls 12 [(0, .ref (E.1 100)), (1, .int x1), (2, .int x2), (3, .int x3), (4, .int x4), (5, .int x5), (6, .int x6), (7, .int x7), (8, .int x8)] → W p l e (ea_rm 7 166) s m args below meth cd H locs 0 0 (MQ below (ea_Qi E ids res) args s 0 0 (ea_Ad E ids)) (F0 m 61 ls []) := by
  intro n
  induction n with
  | zero => intro x1 x2 x3 x4 x5 x6 x7 x8 M H locs ls hf; cases hf
  | succ n ih =>
    intro x1 x2 x3 x4 x5 x6 x7 x8 M H locs ls hf  hw hl
    replace hf := (fX11_beside_61.eq_2 ..).symm.trans hf
    refine lv_iload C.1 C.2.1 dX11_beside_61 (lv_at hl 8 rfl) ?_
    refine lv_iload_n C.1 C.2.1 dX11_beside_63 rfl (lv_at hl 1 rfl) ?_
    refine lv_iload C.1 C.2.1 dX11_beside_64 (lv_at hl 5 rfl) ?_
    obtain ⟨hc1, hf⟩ := ea_ck_s hf
    refine lv_irem C.1 C.2.1 dX11_beside_66 (ea_nz_s hc1) ?_
    refine lv_iconst (v := 1) C.1 C.2.1 dX11_beside_67 (by decide) ?_
    refine lv_iadd C.1 C.2.1 dX11_beside_68 ?_
    refine lv_icmp_gt (tgt := 145) C.1 C.2.1 dX11_beside_69 (by decide) (fun hc2 => ?_) (fun hc2 => ?_)
    · replace hf := ea_if_t hc2 hf
      exact hk145 _ _ _ _ _ _ _ _ _ _ _ hf hw (lv_sub hl [0, 1, 2, 3, 4, 5, 6, 7] rfl)
    · replace hf := ea_if_f hc2 hf
      refine lv_iload C.1 C.2.1 dX11_beside_72 (lv_at hl 5 rfl) ?_
      refine lv_iload C.1 C.2.1 dX11_beside_74 (lv_at hl 7 rfl) ?_
      refine lv_imul C.1 C.2.1 dX11_beside_76 ?_
      refine lv_iload C.1 C.2.1 dX11_beside_77 (lv_at hl 8 rfl) ?_
      refine lv_iadd C.1 C.2.1 dX11_beside_79 ?_
      refine lv_istore (lv' := [(9, .int ((x5 * x7) + x8)), (0, .ref (E.1 100)), (1, .int x1), (2, .int x2), (3, .int x3), (4, .int x4), (5, .int x5), (6, .int x6), (7, .int x7), (8, .int x8)]) C.1 C.2.1 dX11_beside_80 hl (by decide) rfl (fun ls hl => ?_)
      refine lv_iload C.1 C.2.1 dX11_beside_82 (lv_at hl 8 rfl) ?_
      refine lv_iconst (v := 0) C.1 C.2.1 dX11_beside_84 (by decide) ?_
      refine lv_aload_n C.1 C.2.1 dX11_beside_85 rfl (lv_at hl 1 rfl) ?_
      refine gf_X11_17 C hw (hY 100 11 rfl) dX11_beside_86 ?_
      refine W.eq (g2 := F0 m 89 ls [.ref (E.1 102), .int (0 : Int32), .int x7]) rfl ?_
      refine lv_iconst (v := 1) C.1 C.2.1 dX11_beside_89 (by decide) ?_
      refine ea_iald C hw (show ea_ok ids 102 20 from ok_11_12 (hY 100 11 rfl)) (by decide) dX11_beside_90 ?_
      refine lv_iconst (v := 1) C.1 C.2.1 dX11_beside_91 (by decide) ?_
      refine lv_isub C.1 C.2.1 dX11_beside_92 ?_
      obtain ⟨r4, M5, he3, hf⟩ := ea_ci_s hf
      refine ea_runi2 hw (cl_X11_172 C hw (As := [.int x7, .int (0 : Int32), .int ((M.1 102 (1 : Int32).toNatClampNeg) - (1 : Int32))]) (rest := []) (mX11_in (l := l) (E := E) (ids := ids) hY he3) (by decide) rfl hl.1 rfl (Nat.le_of_ble_eq_true rfl) dX11_beside_93 ⟨Nat.le_refl _, Nat.le_refl _⟩) (fun H locs hw => ?_)
      refine lv_if_eq (tgt := 139) C.1 C.2.1 dX11_beside_96 (by decide) (fun hc6 => ?_) (fun hc6 => ?_)
      · replace hf := ea_if_t hc6 hf
        exact wX11_beside_139 C hY ih _ _ _ _ _ _ _ _ _ _ _ _ hf hw (lv_sub hl [1, 2, 3, 4, 5, 6, 7, 8, 9] rfl)
      · replace hf := ea_if_f hc6 hf
        refine lv_iload C.1 C.2.1 dX11_beside_99 (lv_at hl 9 rfl) ?_
        refine lv_iconst (v := 0) C.1 C.2.1 dX11_beside_101 (by decide) ?_
        refine lv_iload C.1 C.2.1 dX11_beside_102 (lv_at hl 6 rfl) ?_
        refine lv_iconst (v := 1) C.1 C.2.1 dX11_beside_104 (by decide) ?_
        refine lv_isub C.1 C.2.1 dX11_beside_105 ?_
        obtain ⟨r8, M9, he7, hf⟩ := ea_ci_s hf
        refine ea_runi2 hw (cl_X11_172 C hw (As := [.int x8, .int (0 : Int32), .int (x5 - (1 : Int32))]) (rest := []) (mX11_in (l := l) (E := E) (ids := ids) hY he7) (by decide) rfl hl.1 rfl (Nat.le_of_ble_eq_true rfl) dX11_beside_106 ⟨Nat.le_refl _, Nat.le_refl _⟩) (fun H locs hw => ?_)
        refine lv_if_eq (tgt := 139) C.1 C.2.1 dX11_beside_109 (by decide) (fun hc10 => ?_) (fun hc10 => ?_)
        · replace hf := ea_if_t hc10 hf
          exact wX11_beside_139 C hY ih _ _ _ _ _ _ _ _ _ _ _ _ hf hw (lv_sub hl [1, 2, 3, 4, 5, 6, 7, 8, 9] rfl)
        · replace hf := ea_if_f hc10 hf
          refine lv_iload C.1 C.2.1 dX11_beside_112 (lv_at hl 0 rfl) ?_
          refine lv_iload_n C.1 C.2.1 dX11_beside_114 rfl (lv_at hl 2 rfl) ?_
          refine lv_icmp_ne (tgt := 121) C.1 C.2.1 dX11_beside_115 (by decide) (fun hc11 => ?_) (fun hc11 => ?_)
          · replace hf := ea_if_f hc11 hf
            refine lv_aload_n C.1 C.2.1 dX11_beside_121 rfl (lv_at hl 1 rfl) ?_
            refine gf_X11_95 C hw (hY 100 11 rfl) dX11_beside_122 ?_
            refine W.eq (g2 := F0 m 125 ls [.ref (E.1 127)]) rfl ?_
            refine lv_iload C.1 C.2.1 dX11_beside_125 (lv_at hl 7 rfl) ?_
            refine lv_aload_n C.1 C.2.1 dX11_beside_127 rfl (lv_at hl 1 rfl) ?_
            refine lv_iload C.1 C.2.1 dX11_beside_128 (lv_at hl 0 rfl) ?_
            refine lv_iload_n C.1 C.2.1 dX11_beside_130 rfl (lv_at hl 3 rfl) ?_
            refine lv_iload_n C.1 C.2.1 dX11_beside_131 rfl (lv_at hl 4 rfl) ?_
            obtain ⟨r13, M14, he12, hf⟩ := ea_ci_s hf
            refine ea_runi2 hw (cl_X11_333 C hw (hY 100 11 rfl) (As := [.int ((x5 * x7) + x8), .int x2, .int x3]) (rest := [.int x6, .ref (E.1 127)]) (mX11_onlyThread (l := l) (E := E) (ids := ids) hY he12) (by decide) rfl hl.1 rfl (Nat.le_of_ble_eq_true rfl) dX11_beside_132 ⟨Nat.le_refl _, Nat.le_refl _⟩) (fun H locs hw => ?_)
            obtain ⟨hc15, hf⟩ := ea_ck_s hf
            refine ea_iast C hw (show ea_ok ids 127 20 from ok_11_43 (hY 100 11 rfl)) hc15 dX11_beside_135 (fun H locs hw => ?_)
            refine lv_iinc (v := x6 + (1 : Int32)) (lv' := [(6, .int (x6 + (1 : Int32))), (9, .int ((x5 * x7) + x8)), (0, .ref (E.1 100)), (1, .int x1), (2, .int x2), (3, .int x3), (4, .int x4), (5, .int x5), (7, .int x7), (8, .int x8)]) C.1 C.2.1 dX11_beside_136 hl (k := 7) rfl rfl (by decide) rfl (fun ls hl => ?_)
            exact wX11_beside_139 C hY ih _ _ _ _ _ _ _ _ _ _ _ _ hf hw (lv_sub hl [2, 3, 4, 5, 6, 7, 0, 8, 9] rfl)
          · replace hf := ea_if_t hc11 hf
            refine lv_goto (tgt := 139) C.1 C.2.1 dX11_beside_118 (by decide) ?_
            exact wX11_beside_139 C hY ih _ _ _ _ _ _ _ _ _ _ _ _ hf hw (lv_sub hl [1, 2, 3, 4, 5, 6, 7, 8, 9] rfl)
set_option maxHeartbeats 4000000 in
set_option maxRecDepth 20000 in
theorem wX11_beside_145 (C : ea_C p s m args meth cd cX11_beside 12 (some .int) RX11) (hY : ea_Y ids) {k42 : Int32 → Int32 → Int32 → Int32 → Int32 → Int32 → Int32 → eM → Option (Int32 × eM)} (hk42 : ∀ (x1 : Int32) (x2 : Int32) (x3 : Int32) (x4 : Int32) (x5 : Int32) (x6 : Int32) (x7 : Int32) (M : eM) (H : Heap) (locs : List Loc) (ls : Array Slot), k42 x1 x2 x3 x4 x5 x6 x7 M = some res → ea_w E ids M s H locs → lv_has ls 12 [(0, .ref (E.1 100)), (1, .int x1), (2, .int x2), (3, .int x3), (4, .int x4), (5, .int x5), (6, .int x6), (7, .int x7)] → W p l e (ea_rm 7 166) s m args below meth cd H locs 0 0 (MQ below (ea_Qi E ids res) args s 0 0 (ea_Ad E ids)) (F0 m 42 ls [])) : ∀ (x1 : Int32) (x2 : Int32) (x3 : Int32) (x4 : Int32) (x5 : Int32) (x6 : Int32) (x7 : Int32) (M : eM) (H : Heap) (locs : List Loc) (ls : Array Slot), fX11_beside_145 k42 x1 x2 x3 x4 x5 x6 x7 M = some res → ea_w E ids M s H locs → lv_has ls 12 [(0, .ref (E.1 100)), (1, .int x1), (2, .int x2), (3, .int x3), (4, .int x4), (5, .int x5), (6, .int x6), (7, .int x7)] → W p l e (ea_rm 7 166) s m args below meth cd H locs 0 0 (MQ below (ea_Qi E ids res) args s 0 0 (ea_Ad E ids)) (F0 m 145 ls []) := by
  intro x1 x2 x3 x4 x5 x6 x7 M H locs ls hf  hw hl
  replace hf := (fX11_beside_145.eq_1 ..).symm.trans hf
  refine lv_iinc (v := x7 + (1 : Int32)) (lv' := [(7, .int (x7 + (1 : Int32))), (0, .ref (E.1 100)), (1, .int x1), (2, .int x2), (3, .int x3), (4, .int x4), (5, .int x5), (6, .int x6)]) C.1 C.2.1 dX11_beside_145 hl (k := 7) rfl rfl (by decide) rfl (fun ls hl => ?_)
  refine lv_goto (tgt := 42) C.1 C.2.1 dX11_beside_148 (by decide) ?_
  exact hk42 _ _ _ _ _ _ _ _ _ _ _ hf hw (lv_sub hl [1, 2, 3, 4, 5, 6, 7, 0] rfl)
set_option maxHeartbeats 4000000 in
set_option maxRecDepth 20000 in
theorem wX11_beside_42 (C : ea_C p s m args meth cd cX11_beside 12 (some .int) RX11) (hY : ea_Y ids) {k151 : Int32 → Int32 → eM → Option (Int32 × eM)} (hk151 : ∀ (x4 : Int32) (x6 : Int32) (M : eM) (H : Heap) (locs : List Loc) (ls : Array Slot), k151 x4 x6 M = some res → ea_w E ids M s H locs → lv_has ls 12 [(0, .ref (E.1 100)), (4, .int x4), (6, .int x6)] → W p l e (ea_rm 7 166) s m args below meth cd H locs 0 0 (MQ below (ea_Qi E ids res) args s 0 0 (ea_Ad E ids)) (F0 m 151 ls [])) : ∀ (n : Nat) (x1 : Int32) (x2 : Int32) (x3 : Int32) (x4 : Int32) (x5 : Int32) (x6 : Int32) (x7 : Int32) (M : eM) (H : Heap) (locs : List Loc) (ls : Array Slot), fX11_beside_42 k151 n x1 x2 x3 x4 x5 x6 x7 M = some res → ea_w E ids M s H locs → lv_has ls 12 [(0, .ref (E.1 100)), (1, .int x1), (2, .int x2), (3, .int x3), (4, .int x4), (5, .int x5), (6, .int x6), (7, .int x7)] → W p l e (ea_rm 7 166) s m args below meth cd H locs 0 0 (MQ below (ea_Qi E ids res) args s 0 0 (ea_Ad E ids)) (F0 m 42 ls []) := by
  intro n
  induction n with
  | zero => intro x1 x2 x3 x4 x5 x6 x7 M H locs ls hf; cases hf
  | succ n ih =>
    intro x1 x2 x3 x4 x5 x6 x7 M H locs ls hf  hw hl
    replace hf := (fX11_beside_42.eq_2 ..).symm.trans hf
    refine lv_iload C.1 C.2.1 dX11_beside_42 (lv_at hl 7 rfl) ?_
    refine lv_iload_n C.1 C.2.1 dX11_beside_44 rfl (lv_at hl 1 rfl) ?_
    refine lv_iload C.1 C.2.1 dX11_beside_45 (lv_at hl 5 rfl) ?_
    obtain ⟨hc1, hf⟩ := ea_ck_s hf
    refine lv_idiv C.1 C.2.1 dX11_beside_47 (ea_nz_s hc1) ?_
    refine lv_iconst (v := 1) C.1 C.2.1 dX11_beside_48 (by decide) ?_
    refine lv_iadd C.1 C.2.1 dX11_beside_49 ?_
    refine lv_icmp_gt (tgt := 151) C.1 C.2.1 dX11_beside_50 (by decide) (fun hc2 => ?_) (fun hc2 => ?_)
    · replace hf := ea_if_t hc2 hf
      exact hk151 _ _ _ _ _ _ hf hw (lv_sub hl [0, 4, 6] rfl)
    · replace hf := ea_if_f hc2 hf
      refine lv_iload_n C.1 C.2.1 dX11_beside_53 rfl (lv_at hl 1 rfl) ?_
      refine lv_iload C.1 C.2.1 dX11_beside_54 (lv_at hl 5 rfl) ?_
      obtain ⟨hc3, hf⟩ := ea_ck_s hf
      refine lv_irem C.1 C.2.1 dX11_beside_56 (ea_nz_s hc3) ?_
      refine lv_iconst (v := 1) C.1 C.2.1 dX11_beside_57 (by decide) ?_
      refine lv_isub C.1 C.2.1 dX11_beside_58 ?_
      obtain ⟨y4, ey5, hf⟩ := ea_lt_s hf
      refine ea_topi ey5 ?_
      refine lv_istore (lv' := [(8, .int y4), (0, .ref (E.1 100)), (1, .int x1), (2, .int x2), (3, .int x3), (4, .int x4), (5, .int x5), (6, .int x6), (7, .int x7)]) C.1 C.2.1 dX11_beside_59 hl (by decide) rfl (fun ls hl => ?_)
      exact wX11_beside_61 C hY (wX11_beside_145 C hY ih) ea_N _ _ _ _ _ _ _ _ _ _ _ _ hf hw (lv_sub hl [1, 2, 3, 4, 5, 6, 7, 8, 0] rfl)
set_option maxHeartbeats 4000000 in
set_option maxRecDepth 20000 in
theorem wX11_beside_223 (C : ea_C p s m args meth cd cX11_beside 12 (some .int) RX11) (hY : ea_Y ids) {k182 : Int32 → Int32 → Int32 → Int32 → Int32 → Int32 → Int32 → eM → Option (Int32 × eM)} (hk182 : ∀ (x4 : Int32) (x6 : Int32) (x7 : Int32) (x8 : Int32) (x9 : Int32) (x10 : Int32) (x11 : Int32) (M : eM) (H : Heap) (locs : List Loc) (ls : Array Slot), k182 x4 x6 x7 x8 x9 x10 x11 M = some res → ea_w E ids M s H locs → lv_has ls 12 [(0, .ref (E.1 100)), (4, .int x4), (6, .int x6), (7, .int x7), (8, .int x8), (9, .int x9), (10, .int x10), (11, .int x11)] → W p l e (ea_rm 7 166) s m args below meth cd H locs 0 0 (MQ below (ea_Qi E ids res) args s 0 0 (ea_Ad E ids)) (F0 m 182 ls [])) : ∀ (x4 : Int32) (x6 : Int32) (x7 : Int32) (x8 : Int32) (x9 : Int32) (x11 : Int32) (t0 : Int32) (t1 : Int32) (M : eM) (H : Heap) (locs : List Loc) (ls : Array Slot), fX11_beside_223 k182 x4 x6 x7 x8 x9 x11 t0 t1 M = some res → ea_w E ids M s H locs → lv_has ls 12 [(0, .ref (E.1 100)), (4, .int x4), (6, .int x6), (7, .int x7), (8, .int x8), (9, .int x9), (11, .int x11)] → W p l e (ea_rm 7 166) s m args below meth cd H locs 0 0 (MQ below (ea_Qi E ids res) args s 0 0 (ea_Ad E ids)) (F0 m 223 ls [.int t0, .int t1]) := by
  intro x4 x6 x7 x8 x9 x11 t0 t1 M H locs ls hf  hw hl
  replace hf := (fX11_beside_223.eq_1 ..).symm.trans hf
  refine lv_iadd C.1 C.2.1 dX11_beside_223 ?_
  refine lv_istore (lv' := [(10, .int (t1 + t0)), (0, .ref (E.1 100)), (4, .int x4), (6, .int x6), (7, .int x7), (8, .int x8), (9, .int x9), (11, .int x11)]) C.1 C.2.1 dX11_beside_224 hl (by decide) rfl (fun ls hl => ?_)
  refine lv_iinc (v := x11 + (1 : Int32)) (lv' := [(11, .int (x11 + (1 : Int32))), (10, .int (t1 + t0)), (0, .ref (E.1 100)), (4, .int x4), (6, .int x6), (7, .int x7), (8, .int x8), (9, .int x9)]) C.1 C.2.1 dX11_beside_226 hl (k := 7) rfl rfl (by decide) rfl (fun ls hl => ?_)
  refine lv_goto (tgt := 182) C.1 C.2.1 dX11_beside_229 (by decide) ?_
  exact hk182 _ _ _ _ _ _ _ _ _ _ _ hf hw (lv_sub hl [2, 3, 4, 5, 6, 7, 1, 0] rfl)
set_option maxHeartbeats 4000000 in
set_option maxRecDepth 20000 in
theorem wX11_beside_182 (C : ea_C p s m args meth cd cX11_beside 12 (some .int) RX11) (hY : ea_Y ids) {k232 : Int32 → Int32 → Int32 → Int32 → Int32 → Int32 → eM → Option (Int32 × eM)} (hk232 : ∀ (x4 : Int32) (x6 : Int32) (x7 : Int32) (x8 : Int32) (x9 : Int32) (x10 : Int32) (M : eM) (H : Heap) (locs : List Loc) (ls : Array Slot), k232 x4 x6 x7 x8 x9 x10 M = some res → ea_w E ids M s H locs → lv_has ls 12 [(0, .ref (E.1 100)), (4, .int x4), (6, .int x6), (7, .int x7), (8, .int x8), (9, .int x9), (10, .int x10)] → W p l e (ea_rm 7 166) s m args below meth cd H locs 0 0 (MQ below (ea_Qi E ids res) args s 0 0 (ea_Ad E ids)) (F0 m 232 ls [])) : ∀ (n : Nat) (x4 : Int32) (x6 : Int32) (x7 : Int32) (x8 : Int32) (x9 : Int32) (x10 : Int32) (x11 : Int32) (M : eM) (H : Heap) (locs : List Loc) (ls : Array Slot), fX11_beside_182 k232 n x4 x6 x7 x8 x9 x10 x11 M = some res → ea_w E ids M s H locs → lv_has ls 12 [(0, .ref (E.1 100)), (4, .int x4), (6, .int x6), (7, .int x7), (8, .int x8), (9, .int x9), (10, .int x10), (11, .int x11)] → W p l e (ea_rm 7 166) s m args below meth cd H locs 0 0 (MQ below (ea_Qi E ids res) args s 0 0 (ea_Ad E ids)) (F0 m 182 ls []) := by
  intro n
  induction n with
  | zero => intro x4 x6 x7 x8 x9 x10 x11 M H locs ls hf; cases hf
  | succ n ih =>
    intro x4 x6 x7 x8 x9 x10 x11 M H locs ls hf  hw hl
    replace hf := (fX11_beside_182.eq_2 ..).symm.trans hf
    refine lv_iload C.1 C.2.1 dX11_beside_182 (lv_at hl 7 rfl) ?_
    refine lv_iload C.1 C.2.1 dX11_beside_184 (lv_at hl 2 rfl) ?_
    refine lv_icmp_ge (tgt := 232) C.1 C.2.1 dX11_beside_186 (by decide) (fun hc1 => ?_) (fun hc1 => ?_)
    · replace hf := ea_if_t hc1 hf
      exact hk232 _ _ _ _ _ _ _ _ _ _ hf hw (lv_sub hl [0, 1, 2, 3, 4, 5, 6] rfl)
    · replace hf := ea_if_f hc1 hf
      refine lv_aload_n C.1 C.2.1 dX11_beside_189 rfl (lv_at hl 0 rfl) ?_
      refine gf_X11_95 C hw (hY 100 11 rfl) dX11_beside_190 ?_
      refine W.eq (g2 := F0 m 193 ls [.ref (E.1 127)]) rfl ?_
      refine lv_iload C.1 C.2.1 dX11_beside_193 (lv_at hl 5 rfl) ?_
      obtain ⟨hc2, hf⟩ := ea_ck_s hf
      refine ea_iald C hw (show ea_ok ids 127 20 from ok_11_43 (hY 100 11 rfl)) hc2 dX11_beside_195 ?_
      refine lv_if_lt (tgt := 232) C.1 C.2.1 dX11_beside_196 (by decide) (fun hc3 => ?_) (fun hc3 => ?_)
      · replace hf := ea_if_t hc3 hf
        exact hk232 _ _ _ _ _ _ _ _ _ _ hf hw (lv_sub hl [0, 1, 2, 3, 4, 5, 6] rfl)
      · replace hf := ea_if_f hc3 hf
        refine lv_iload C.1 C.2.1 dX11_beside_199 (lv_at hl 6 rfl) ?_
        refine lv_aload_n C.1 C.2.1 dX11_beside_201 rfl (lv_at hl 0 rfl) ?_
        refine gf_X11_95 C hw (hY 100 11 rfl) dX11_beside_202 ?_
        refine W.eq (g2 := F0 m 205 ls [.ref (E.1 127), .int x10]) rfl ?_
        refine lv_iload C.1 C.2.1 dX11_beside_205 (lv_at hl 7 rfl) ?_
        obtain ⟨hc4, hf⟩ := ea_ck_s hf
        refine ea_iald C hw (show ea_ok ids 127 20 from ok_11_43 (hY 100 11 rfl)) hc4 dX11_beside_207 ?_
        refine lv_aload_n C.1 C.2.1 dX11_beside_208 rfl (lv_at hl 0 rfl) ?_
        refine gf_X11_95 C hw (hY 100 11 rfl) dX11_beside_209 ?_
        refine W.eq (g2 := F0 m 212 ls [.ref (E.1 127), .int (M.1 127 x11.toNatClampNeg), .int x10]) rfl ?_
        refine lv_iload C.1 C.2.1 dX11_beside_212 (lv_at hl 5 rfl) ?_
        obtain ⟨hc5, hf⟩ := ea_ck_s hf
        refine ea_iald C hw (show ea_ok ids 127 20 from ok_11_43 (hY 100 11 rfl)) hc5 dX11_beside_214 ?_
        refine lv_icmp_ne (tgt := 222) C.1 C.2.1 dX11_beside_215 (by decide) (fun hc6 => ?_) (fun hc6 => ?_)
        · replace hf := ea_if_f hc6 hf
          refine lv_iconst (v := 0) C.1 C.2.1 dX11_beside_222 (by decide) ?_
          exact wX11_beside_223 C hY ih _ _ _ _ _ _ _ _ _ _ _ _ hf hw (lv_sub hl [0, 1, 2, 3, 4, 5, 7] rfl)
        · replace hf := ea_if_t hc6 hf
          refine lv_iconst (v := 1) C.1 C.2.1 dX11_beside_218 (by decide) ?_
          refine lv_goto (tgt := 223) C.1 C.2.1 dX11_beside_219 (by decide) ?_
          exact wX11_beside_223 C hY ih _ _ _ _ _ _ _ _ _ _ _ _ hf hw (lv_sub hl [0, 1, 2, 3, 4, 5, 7] rfl)
set_option maxHeartbeats 4000000 in
set_option maxRecDepth 20000 in
theorem wX11_beside_279 (C : ea_C p s m args meth cd cX11_beside 12 (some .int) RX11) (hY : ea_Y ids) {k169 : Int32 → Int32 → Int32 → Int32 → Int32 → eM → Option (Int32 × eM)} (hk169 : ∀ (x4 : Int32) (x6 : Int32) (x7 : Int32) (x8 : Int32) (x9 : Int32) (M : eM) (H : Heap) (locs : List Loc) (ls : Array Slot), k169 x4 x6 x7 x8 x9 M = some res → ea_w E ids M s H locs → lv_has ls 12 [(0, .ref (E.1 100)), (4, .int x4), (6, .int x6), (7, .int x7), (8, .int x8), (9, .int x9)] → W p l e (ea_rm 7 166) s m args below meth cd H locs 0 0 (MQ below (ea_Qi E ids res) args s 0 0 (ea_Ad E ids)) (F0 m 169 ls [])) : ∀ (x4 : Int32) (x6 : Int32) (x7 : Int32) (x8 : Int32) (x9 : Int32) (M : eM) (H : Heap) (locs : List Loc) (ls : Array Slot), fX11_beside_279 k169 x4 x6 x7 x8 x9 M = some res → ea_w E ids M s H locs → lv_has ls 12 [(0, .ref (E.1 100)), (4, .int x4), (6, .int x6), (7, .int x7), (8, .int x8), (9, .int x9)] → W p l e (ea_rm 7 166) s m args below meth cd H locs 0 0 (MQ below (ea_Qi E ids res) args s 0 0 (ea_Ad E ids)) (F0 m 279 ls []) := by
  intro x4 x6 x7 x8 x9 M H locs ls hf  hw hl
  replace hf := (fX11_beside_279.eq_1 ..).symm.trans hf
  refine lv_iinc (v := x9 + (1 : Int32)) (lv' := [(9, .int (x9 + (1 : Int32))), (0, .ref (E.1 100)), (4, .int x4), (6, .int x6), (7, .int x7), (8, .int x8)]) C.1 C.2.1 dX11_beside_279 hl (k := 5) rfl rfl (by decide) rfl (fun ls hl => ?_)
  refine lv_goto (tgt := 169) C.1 C.2.1 dX11_beside_282 (by decide) ?_
  exact hk169 _ _ _ _ _ _ _ _ _ hf hw (lv_sub hl [1, 2, 3, 4, 5, 0] rfl)
set_option maxHeartbeats 4000000 in
set_option maxRecDepth 20000 in
theorem wX11_beside_266 (C : ea_C p s m args meth cd cX11_beside 12 (some .int) RX11) (hY : ea_Y ids) {k169 : Int32 → Int32 → Int32 → Int32 → Int32 → eM → Option (Int32 × eM)} (hk169 : ∀ (x4 : Int32) (x6 : Int32) (x7 : Int32) (x8 : Int32) (x9 : Int32) (M : eM) (H : Heap) (locs : List Loc) (ls : Array Slot), k169 x4 x6 x7 x8 x9 M = some res → ea_w E ids M s H locs → lv_has ls 12 [(0, .ref (E.1 100)), (4, .int x4), (6, .int x6), (7, .int x7), (8, .int x8), (9, .int x9)] → W p l e (ea_rm 7 166) s m args below meth cd H locs 0 0 (MQ below (ea_Qi E ids res) args s 0 0 (ea_Ad E ids)) (F0 m 169 ls [])) : ∀ (x4 : Int32) (x6 : Int32) (x9 : Int32) (x10 : Int32) (M : eM) (H : Heap) (locs : List Loc) (ls : Array Slot), fX11_beside_266 k169 x4 x6 x9 x10 M = some res → ea_w E ids M s H locs → lv_has ls 12 [(0, .ref (E.1 100)), (4, .int x4), (6, .int x6), (9, .int x9), (10, .int x10)] → W p l e (ea_rm 7 166) s m args below meth cd H locs 0 0 (MQ below (ea_Qi E ids res) args s 0 0 (ea_Ad E ids)) (F0 m 266 ls []) := by
  intro x4 x6 x9 x10 M H locs ls hf  hw hl
  replace hf := (fX11_beside_266.eq_1 ..).symm.trans hf
  refine lv_aload_n C.1 C.2.1 dX11_beside_266 rfl (lv_at hl 0 rfl) ?_
  refine gf_X11_95 C hw (hY 100 11 rfl) dX11_beside_267 ?_
  refine W.eq (g2 := F0 m 270 ls [.ref (E.1 127)]) rfl ?_
  refine lv_iload C.1 C.2.1 dX11_beside_270 (lv_at hl 3 rfl) ?_
  obtain ⟨hc1, hf⟩ := ea_ck_s hf
  refine ea_iald C hw (show ea_ok ids 127 20 from ok_11_43 (hY 100 11 rfl)) hc1 dX11_beside_272 ?_
  refine lv_istore (lv' := [(7, .int (M.1 127 x9.toNatClampNeg)), (0, .ref (E.1 100)), (4, .int x4), (6, .int x6), (9, .int x9), (10, .int x10)]) C.1 C.2.1 dX11_beside_273 hl (by decide) rfl (fun ls hl => ?_)
  refine lv_iload C.1 C.2.1 dX11_beside_275 (lv_at hl 5 rfl) ?_
  refine lv_istore (lv' := [(8, .int x10), (7, .int (M.1 127 x9.toNatClampNeg)), (0, .ref (E.1 100)), (4, .int x4), (6, .int x6), (9, .int x9), (10, .int x10)]) C.1 C.2.1 dX11_beside_277 hl (by decide) rfl (fun ls hl => ?_)
  exact wX11_beside_279 C hY hk169 _ _ _ _ _ _ _ _ _ hf hw (lv_sub hl [2, 3, 4, 1, 0, 5] rfl)
set_option maxHeartbeats 4000000 in
set_option maxRecDepth 20000 in
theorem wX11_beside_232 (C : ea_C p s m args meth cd cX11_beside 12 (some .int) RX11) (hY : ea_Y ids) {k169 : Int32 → Int32 → Int32 → Int32 → Int32 → eM → Option (Int32 × eM)} (hk169 : ∀ (x4 : Int32) (x6 : Int32) (x7 : Int32) (x8 : Int32) (x9 : Int32) (M : eM) (H : Heap) (locs : List Loc) (ls : Array Slot), k169 x4 x6 x7 x8 x9 M = some res → ea_w E ids M s H locs → lv_has ls 12 [(0, .ref (E.1 100)), (4, .int x4), (6, .int x6), (7, .int x7), (8, .int x8), (9, .int x9)] → W p l e (ea_rm 7 166) s m args below meth cd H locs 0 0 (MQ below (ea_Qi E ids res) args s 0 0 (ea_Ad E ids)) (F0 m 169 ls [])) : ∀ (x4 : Int32) (x6 : Int32) (x7 : Int32) (x8 : Int32) (x9 : Int32) (x10 : Int32) (M : eM) (H : Heap) (locs : List Loc) (ls : Array Slot), fX11_beside_232 k169 x4 x6 x7 x8 x9 x10 M = some res → ea_w E ids M s H locs → lv_has ls 12 [(0, .ref (E.1 100)), (4, .int x4), (6, .int x6), (7, .int x7), (8, .int x8), (9, .int x9), (10, .int x10)] → W p l e (ea_rm 7 166) s m args below meth cd H locs 0 0 (MQ below (ea_Qi E ids res) args s 0 0 (ea_Ad E ids)) (F0 m 232 ls []) := by
  intro x4 x6 x7 x8 x9 x10 M H locs ls hf  hw hl
  replace hf := (fX11_beside_232.eq_1 ..).symm.trans hf
  refine lv_iload C.1 C.2.1 dX11_beside_232 (lv_at hl 6 rfl) ?_
  refine lv_if_eq (tgt := 279) C.1 C.2.1 dX11_beside_234 (by decide) (fun hc1 => ?_) (fun hc1 => ?_)
  · replace hf := ea_if_t hc1 hf
    exact wX11_beside_279 C hY hk169 _ _ _ _ _ _ _ _ _ hf hw (lv_sub hl [0, 1, 2, 3, 4, 5] rfl)
  · replace hf := ea_if_f hc1 hf
    refine lv_iload C.1 C.2.1 dX11_beside_237 (lv_at hl 6 rfl) ?_
    refine lv_iload C.1 C.2.1 dX11_beside_239 (lv_at hl 4 rfl) ?_
    refine lv_icmp_lt (tgt := 279) C.1 C.2.1 dX11_beside_241 (by decide) (fun hc2 => ?_) (fun hc2 => ?_)
    · replace hf := ea_if_t hc2 hf
      exact wX11_beside_279 C hY hk169 _ _ _ _ _ _ _ _ _ hf hw (lv_sub hl [0, 1, 2, 3, 4, 5] rfl)
    · replace hf := ea_if_f hc2 hf
      refine lv_iload C.1 C.2.1 dX11_beside_244 (lv_at hl 6 rfl) ?_
      refine lv_iload C.1 C.2.1 dX11_beside_246 (lv_at hl 4 rfl) ?_
      refine lv_icmp_ne (tgt := 266) C.1 C.2.1 dX11_beside_248 (by decide) (fun hc3 => ?_) (fun hc3 => ?_)
      · replace hf := ea_if_f hc3 hf
        exact wX11_beside_266 C hY hk169 _ _ _ _ _ _ _ _ hf hw (lv_sub hl [0, 1, 2, 5, 6] rfl)
      · replace hf := ea_if_t hc3 hf
        refine lv_aload_n C.1 C.2.1 dX11_beside_251 rfl (lv_at hl 0 rfl) ?_
        refine gf_X11_95 C hw (hY 100 11 rfl) dX11_beside_252 ?_
        refine W.eq (g2 := F0 m 255 ls [.ref (E.1 127)]) rfl ?_
        refine lv_iload C.1 C.2.1 dX11_beside_255 (lv_at hl 5 rfl) ?_
        obtain ⟨hc4, hf⟩ := ea_ck_s hf
        refine ea_iald C hw (show ea_ok ids 127 20 from ok_11_43 (hY 100 11 rfl)) hc4 dX11_beside_257 ?_
        refine lv_iload C.1 C.2.1 dX11_beside_258 (lv_at hl 3 rfl) ?_
        refine lv_icmp_lt (tgt := 266) C.1 C.2.1 dX11_beside_260 (by decide) (fun hc5 => ?_) (fun hc5 => ?_)
        · replace hf := ea_if_t hc5 hf
          exact wX11_beside_266 C hY hk169 _ _ _ _ _ _ _ _ hf hw (lv_sub hl [0, 1, 2, 5, 6] rfl)
        · replace hf := ea_if_f hc5 hf
          refine lv_goto (tgt := 279) C.1 C.2.1 dX11_beside_263 (by decide) ?_
          exact wX11_beside_279 C hY hk169 _ _ _ _ _ _ _ _ _ hf hw (lv_sub hl [0, 1, 2, 3, 4, 5] rfl)
set_option maxHeartbeats 4000000 in
set_option maxRecDepth 20000 in
theorem wX11_beside_169 (C : ea_C p s m args meth cd cX11_beside 12 (some .int) RX11) (hY : ea_Y ids) {k285 : Int32 → Int32 → Int32 → eM → Option (Int32 × eM)} (hk285 : ∀ (x4 : Int32) (x7 : Int32) (x8 : Int32) (M : eM) (H : Heap) (locs : List Loc) (ls : Array Slot), k285 x4 x7 x8 M = some res → ea_w E ids M s H locs → lv_has ls 12 [(4, .int x4), (7, .int x7), (8, .int x8)] → W p l e (ea_rm 7 166) s m args below meth cd H locs 0 0 (MQ below (ea_Qi E ids res) args s 0 0 (ea_Ad E ids)) (F0 m 285 ls [])) : ∀ (n : Nat) (x4 : Int32) (x6 : Int32) (x7 : Int32) (x8 : Int32) (x9 : Int32) (M : eM) (H : Heap) (locs : List Loc) (ls : Array Slot), fX11_beside_169 k285 n x4 x6 x7 x8 x9 M = some res → ea_w E ids M s H locs → lv_has ls 12 [(0, .ref (E.1 100)), (4, .int x4), (6, .int x6), (7, .int x7), (8, .int x8), (9, .int x9)] → W p l e (ea_rm 7 166) s m args below meth cd H locs 0 0 (MQ below (ea_Qi E ids res) args s 0 0 (ea_Ad E ids)) (F0 m 169 ls []) := by
  intro n
  induction n with
  | zero => intro x4 x6 x7 x8 x9 M H locs ls hf; cases hf
  | succ n ih =>
    intro x4 x6 x7 x8 x9 M H locs ls hf  hw hl
    replace hf := (fX11_beside_169.eq_2 ..).symm.trans hf
    refine lv_iload C.1 C.2.1 dX11_beside_169 (lv_at hl 5 rfl) ?_
    refine lv_iload C.1 C.2.1 dX11_beside_171 (lv_at hl 2 rfl) ?_
    refine lv_icmp_ge (tgt := 285) C.1 C.2.1 dX11_beside_173 (by decide) (fun hc1 => ?_) (fun hc1 => ?_)
    · replace hf := ea_if_t hc1 hf
      exact hk285 _ _ _ _ _ _ _ hf hw (lv_sub hl [1, 3, 4] rfl)
    · replace hf := ea_if_f hc1 hf
      refine lv_iconst (v := 0) C.1 C.2.1 dX11_beside_176 (by decide) ?_
      refine lv_istore (lv' := [(10, .int (0 : Int32)), (0, .ref (E.1 100)), (4, .int x4), (6, .int x6), (7, .int x7), (8, .int x8), (9, .int x9)]) C.1 C.2.1 dX11_beside_177 hl (by decide) rfl (fun ls hl => ?_)
      refine lv_iconst (v := 0) C.1 C.2.1 dX11_beside_179 (by decide) ?_
      refine lv_istore (lv' := [(11, .int (0 : Int32)), (10, .int (0 : Int32)), (0, .ref (E.1 100)), (4, .int x4), (6, .int x6), (7, .int x7), (8, .int x8), (9, .int x9)]) C.1 C.2.1 dX11_beside_180 hl (by decide) rfl (fun ls hl => ?_)
      exact wX11_beside_182 C hY (wX11_beside_232 C hY ih) ea_N _ _ _ _ _ _ _ _ _ _ _ hf hw (lv_sub hl [2, 3, 4, 5, 6, 7, 1, 0] rfl)
set_option maxHeartbeats 4000000 in
set_option maxRecDepth 20000 in
theorem wX11_beside_285 (C : ea_C p s m args meth cd cX11_beside 12 (some .int) RX11) (hY : ea_Y ids) : ∀ (x4 : Int32) (x7 : Int32) (x8 : Int32) (M : eM) (H : Heap) (locs : List Loc) (ls : Array Slot), fX11_beside_285 x4 x7 x8 M = some res → ea_w E ids M s H locs → lv_has ls 12 [(4, .int x4), (7, .int x7), (8, .int x8)] → W p l e (ea_rm 7 166) s m args below meth cd H locs 0 0 (MQ below (ea_Qi E ids res) args s 0 0 (ea_Ad E ids)) (F0 m 285 ls []) := by
  intro x4 x7 x8 M H locs ls hf  hw hl
  replace hf := (fX11_beside_285.eq_1 ..).symm.trans hf
  refine lv_iload C.1 C.2.1 dX11_beside_285 (lv_at hl 0 rfl) ?_
  refine lv_if_ne (tgt := 295) C.1 C.2.1 dX11_beside_287 (by decide) (fun hc1 => ?_) (fun hc1 => ?_)
  · replace hf := ea_if_f hc1 hf
    refine lv_iload C.1 C.2.1 dX11_beside_295 (lv_at hl 2 rfl) ?_
    exact ea_iret C hw hf dX11_beside_297
  · replace hf := ea_if_t hc1 hf
    refine lv_iload C.1 C.2.1 dX11_beside_290 (lv_at hl 1 rfl) ?_
    refine lv_goto (tgt := 297) C.1 C.2.1 dX11_beside_292 (by decide) ?_
    exact ea_iret C hw hf dX11_beside_297
set_option maxHeartbeats 4000000 in
set_option maxRecDepth 20000 in
theorem wX11_beside_151 (C : ea_C p s m args meth cd cX11_beside 12 (some .int) RX11) (hY : ea_Y ids) : ∀ (x4 : Int32) (x6 : Int32) (M : eM) (H : Heap) (locs : List Loc) (ls : Array Slot), fX11_beside_151 x4 x6 M = some res → ea_w E ids M s H locs → lv_has ls 12 [(0, .ref (E.1 100)), (4, .int x4), (6, .int x6)] → W p l e (ea_rm 7 166) s m args below meth cd H locs 0 0 (MQ below (ea_Qi E ids res) args s 0 0 (ea_Ad E ids)) (F0 m 151 ls []) := by
  intro x4 x6 M H locs ls hf  hw hl
  replace hf := (fX11_beside_151.eq_1 ..).symm.trans hf
  refine lv_iload C.1 C.2.1 dX11_beside_151 (lv_at hl 1 rfl) ?_
  refine lv_iconst (v := 2) C.1 C.2.1 dX11_beside_153 (by decide) ?_
  refine lv_icmp_ne (tgt := 160) C.1 C.2.1 dX11_beside_154 (by decide) (fun hc1 => ?_) (fun hc1 => ?_)
  · replace hf := ea_if_f hc1 hf
    refine lv_iconst (v := (-1 : Int32)) C.1 C.2.1 dX11_beside_160 (by decide) ?_
    refine lv_istore (lv' := [(7, .int (-1 : Int32)), (0, .ref (E.1 100)), (4, .int x4), (6, .int x6)]) C.1 C.2.1 dX11_beside_161 hl (by decide) rfl (fun ls hl => ?_)
    refine lv_iconst (v := 0) C.1 C.2.1 dX11_beside_163 (by decide) ?_
    refine lv_istore (lv' := [(8, .int (0 : Int32)), (7, .int (-1 : Int32)), (0, .ref (E.1 100)), (4, .int x4), (6, .int x6)]) C.1 C.2.1 dX11_beside_164 hl (by decide) rfl (fun ls hl => ?_)
    refine lv_iconst (v := 0) C.1 C.2.1 dX11_beside_166 (by decide) ?_
    refine lv_istore (lv' := [(9, .int (0 : Int32)), (8, .int (0 : Int32)), (7, .int (-1 : Int32)), (0, .ref (E.1 100)), (4, .int x4), (6, .int x6)]) C.1 C.2.1 dX11_beside_167 hl (by decide) rfl (fun ls hl => ?_)
    exact wX11_beside_169 C hY (wX11_beside_285 C hY) ea_N _ _ _ _ _ _ _ _ _ hf hw (lv_sub hl [3, 4, 5, 2, 1, 0] rfl)
  · replace hf := ea_if_t hc1 hf
    refine lv_iload C.1 C.2.1 dX11_beside_157 (lv_at hl 2 rfl) ?_
    exact ea_iret C hw hf dX11_beside_159
set_option maxHeartbeats 4000000 in
set_option maxRecDepth 20000 in
theorem wX11_beside_0 (C : ea_C p s m args meth cd cX11_beside 12 (some .int) RX11) (hY : ea_Y ids) : ∀ (x1 : Int32) (x2 : Int32) (x3 : Int32) (x4 : Int32) (M : eM) (H : Heap) (locs : List Loc) (ls : Array Slot), fX11_beside_0 x1 x2 x3 x4 M = some res → ea_w E ids M s H locs → lv_has ls 12 [(0, .ref (E.1 100)), (1, .int x1), (2, .int x2), (3, .int x3), (4, .int x4)] → W p l e (ea_rm 7 166) s m args below meth cd H locs 0 0 (MQ below (ea_Qi E ids res) args s 0 0 (ea_Ad E ids)) (F0 m 0 ls []) := by
  intro x1 x2 x3 x4 M H locs ls hf  hw hl
  replace hf := (fX11_beside_0.eq_1 ..).symm.trans hf
  refine lv_aload_n C.1 C.2.1 dX11_beside_0 rfl (lv_at hl 0 rfl) ?_
  refine lv_iload_n C.1 C.2.1 dX11_beside_1 rfl (lv_at hl 1 rfl) ?_
  refine lv_iload_n C.1 C.2.1 dX11_beside_2 rfl (lv_at hl 2 rfl) ?_
  refine lv_iload_n C.1 C.2.1 dX11_beside_3 rfl (lv_at hl 3 rfl) ?_
  obtain ⟨r2, M3, he1, hf⟩ := ea_ci_s hf
  refine ea_runi2 hw (cl_X11_310 C hw (hY 100 11 rfl) (As := [.int x1, .int x2, .int x3]) (rest := []) (mX11_isAsked (l := l) (E := E) (ids := ids) hY he1) (by decide) rfl hl.1 rfl (Nat.le_of_ble_eq_true rfl) dX11_beside_4 ⟨Nat.le_refl _, Nat.le_refl _⟩) (fun H locs hw => ?_)
  refine lv_if_eq (tgt := 20) C.1 C.2.1 dX11_beside_7 (by decide) (fun hc4 => ?_) (fun hc4 => ?_)
  · replace hf := ea_if_t hc4 hf
    refine lv_bipush (v := (-2 : Int32)) C.1 C.2.1 dX11_beside_20 (by decide) ?_
    exact ea_iret C hw hf dX11_beside_22
  · replace hf := ea_if_f hc4 hf
    refine lv_iload C.1 C.2.1 dX11_beside_10 (lv_at hl 4 rfl) ?_
    refine lv_iconst (v := 0) C.1 C.2.1 dX11_beside_12 (by decide) ?_
    refine lv_iconst (v := 2) C.1 C.2.1 dX11_beside_13 (by decide) ?_
    obtain ⟨r6, M7, he5, hf⟩ := ea_ci_s hf
    refine ea_runi2 hw (cl_X11_172 C hw (As := [.int x4, .int (0 : Int32), .int (2 : Int32)]) (rest := []) (mX11_in (l := l) (E := E) (ids := ids) hY he5) (by decide) rfl hl.1 rfl (Nat.le_of_ble_eq_true rfl) dX11_beside_14 ⟨Nat.le_refl _, Nat.le_refl _⟩) (fun H locs hw => ?_)
    refine lv_if_ne (tgt := 23) C.1 C.2.1 dX11_beside_17 (by decide) (fun hc8 => ?_) (fun hc8 => ?_)
    · replace hf := ea_if_f hc8 hf
      refine lv_aload_n C.1 C.2.1 dX11_beside_23 rfl (lv_at hl 0 rfl) ?_
      refine gf_X11_17 C hw (hY 100 11 rfl) dX11_beside_24 ?_
      refine W.eq (g2 := F0 m 27 ls [.ref (E.1 102)]) rfl ?_
      refine lv_iconst (v := 0) C.1 C.2.1 dX11_beside_27 (by decide) ?_
      refine ea_iald C hw (show ea_ok ids 102 20 from ok_11_12 (hY 100 11 rfl)) (by decide) dX11_beside_28 ?_
      obtain ⟨y9, ey10, hf⟩ := ea_lt_s hf
      refine ea_topi ey10 ?_
      refine lv_istore (lv' := [(5, .int y9), (0, .ref (E.1 100)), (1, .int x1), (2, .int x2), (3, .int x3), (4, .int x4)]) C.1 C.2.1 dX11_beside_29 hl (by decide) rfl (fun ls hl => ?_)
      refine lv_iconst (v := 0) C.1 C.2.1 dX11_beside_31 (by decide) ?_
      refine lv_istore (lv' := [(6, .int (0 : Int32)), (5, .int y9), (0, .ref (E.1 100)), (1, .int x1), (2, .int x2), (3, .int x3), (4, .int x4)]) C.1 C.2.1 dX11_beside_32 hl (by decide) rfl (fun ls hl => ?_)
      refine lv_iload_n C.1 C.2.1 dX11_beside_34 rfl (lv_at hl 3 rfl) ?_
      refine lv_iload C.1 C.2.1 dX11_beside_35 (lv_at hl 1 rfl) ?_
      obtain ⟨hc11, hf⟩ := ea_ck_s hf
      refine lv_idiv C.1 C.2.1 dX11_beside_37 (ea_nz_s hc11) ?_
      refine lv_iconst (v := 1) C.1 C.2.1 dX11_beside_38 (by decide) ?_
      refine lv_isub C.1 C.2.1 dX11_beside_39 ?_
      refine lv_istore (lv' := [(7, .int ((x1 / y9) - (1 : Int32))), (6, .int (0 : Int32)), (5, .int y9), (0, .ref (E.1 100)), (1, .int x1), (2, .int x2), (3, .int x3), (4, .int x4)]) C.1 C.2.1 dX11_beside_40 hl (by decide) rfl (fun ls hl => ?_)
      exact wX11_beside_42 C hY (wX11_beside_151 C hY) ea_N _ _ _ _ _ _ _ _ _ _ _ hf hw (lv_sub hl [3, 4, 5, 6, 7, 2, 1, 0] rfl)
    · replace hf := ea_if_t hc8 hf
      refine lv_bipush (v := (-2 : Int32)) C.1 C.2.1 dX11_beside_20 (by decide) ?_
      exact ea_iret C hw hf dX11_beside_22
set_option maxHeartbeats 4000000 in
set_option maxRecDepth 20000 in
theorem mX11_beside {l : Launch} {E : eE} {ids : List Nat} (hY : ea_Y ids) {x1 : Int32} {x2 : Int32} {x3 : Int32} {x4 : Int32} {M : eM} {res : Int32 × eM} (hf : fX11_beside x1 x2 x3 x4 M = some res) : ea_Mi l yX11_beside cX11_beside 12 (some .int) 7 166 E ids [.ref (E.1 100), .int x1, .int x2, .int x3, .int x4] M res := by
  refine ea_goi (by decide) (Nat.le_of_ble_eq_true rfl) wc_X11_beside ?_
  intro p e s m below meth cd ls C hw hl
  exact wX11_beside_0 C hY _ _ _ _ _ _ _ _ hf hw hl
end SX11_beside

def fX11_byteAt_0 (x1 : Int32) (M : eM) : Option (Int32 × eM) := if (M.1 100 2) ≤ x1 then (some ((-1 : Int32), M)) else (ea_ck (ea_ix x1 (ea_len 101)) (some ((M.1 101 x1.toNatClampNeg) &&& (255 : Int32), M)))
def fX11_byteAt (x1 : Int32) (M : eM) : Option (Int32 × eM) := fX11_byteAt_0 x1 M
section SX11_byteAt
variable {p : Program} {l : Launch} {e : Env} {s : State} {m : MethodId} {args : Array Value} {below : List Frame} {meth : Method} {cd : Code} {E : eE} {ids : List Nat} {res : Int32 × eM}
set_option maxHeartbeats 4000000 in
set_option maxRecDepth 20000 in
theorem wX11_byteAt_0 (C : ea_C p s m args meth cd cX11_byteAt 2 (some .int) RX11) (hY : ea_Y ids) : ∀ (x1 : Int32) (M : eM) (H : Heap) (locs : List Loc) (ls : Array Slot), fX11_byteAt_0 x1 M = some res → ea_w E ids M s H locs → lv_has ls 2 [(0, .ref (E.1 100)), (1, .int x1)] → W p l e (ea_rm 0 0) s m args below meth cd H locs 0 0 (MQ below (ea_Qi E ids res) args s 0 0 (ea_Ad E ids)) (F0 m 0 ls []) := by
  intro x1 M H locs ls hf  hw hl
  replace hf := (fX11_byteAt_0.eq_1 ..).symm.trans hf
  refine lv_iload_n C.1 C.2.1 dX11_byteAt_0 rfl (lv_at hl 1 rfl) ?_
  refine lv_aload_n C.1 C.2.1 dX11_byteAt_1 rfl (lv_at hl 0 rfl) ?_
  refine gf_X11_113 C hw (hY 100 11 rfl) dX11_byteAt_2 ?_
  refine lv_icmp_ge (tgt := 21) C.1 C.2.1 dX11_byteAt_5 (by decide) (fun hc1 => ?_) (fun hc1 => ?_)
  · replace hf := ea_if_t hc1 hf
    refine lv_iconst (v := (-1 : Int32)) C.1 C.2.1 dX11_byteAt_21 (by decide) ?_
    exact ea_iret C hw hf dX11_byteAt_22
  · replace hf := ea_if_f hc1 hf
    refine lv_aload_n C.1 C.2.1 dX11_byteAt_8 rfl (lv_at hl 0 rfl) ?_
    refine gf_X11_7 C hw (hY 100 11 rfl) dX11_byteAt_9 ?_
    refine W.eq (g2 := F0 m 12 ls [.ref (E.1 101)]) rfl ?_
    refine lv_iload_n C.1 C.2.1 dX11_byteAt_12 rfl (lv_at hl 1 rfl) ?_
    obtain ⟨hc2, hf⟩ := ea_ck_s hf
    refine ea_bald C hw (show ea_ok ids 101 22 from ok_11_0 (hY 100 11 rfl)) hc2 dX11_byteAt_13 ?_
    refine lv_sipush (v := 255) C.1 C.2.1 dX11_byteAt_14 (by decide) ?_
    refine lv_iand C.1 C.2.1 dX11_byteAt_17 ?_
    refine lv_goto (tgt := 22) C.1 C.2.1 dX11_byteAt_18 (by decide) ?_
    exact ea_iret C hw hf dX11_byteAt_22
set_option maxHeartbeats 4000000 in
set_option maxRecDepth 20000 in
theorem mX11_byteAt {l : Launch} {E : eE} {ids : List Nat} (hY : ea_Y ids) {x1 : Int32} {M : eM} {res : Int32 × eM} (hf : fX11_byteAt x1 M = some res) : ea_Mi l yX11_byteAt cX11_byteAt 2 (some .int) 0 0 E ids [.ref (E.1 100), .int x1] M res := by
  refine ea_goi (by decide) (Nat.le_of_ble_eq_true rfl) wc_X11_byteAt ?_
  intro p e s m below meth cd ls C hw hl
  exact wX11_byteAt_0 C hY _ _ _ _ _ hf hw hl
end SX11_byteAt

def fX11_frontOf_27 (M : eM) : Option (Int32 × eM) := some ((-1 : Int32), M)
def fX11_frontOf_0 (x1 : Int32) (M : eM) : Option (Int32 × eM) := ea_ci (fX11_lookAt x1 (0 : Int32) (999 : Int32) M) (fun r2 M3 => if r2 < 0 then (fX11_frontOf_27 M3) else (ea_ck (ea_ix (r2 + (6 : Int32)) (ea_len 114)) (if (M3.1 114 (r2 + (6 : Int32)).toNatClampNeg) = (1 : Int32) then (fX11_frontOf_27 M3) else (some (r2 + (3 : Int32), M3)))))
def fX11_frontOf (x1 : Int32) (M : eM) : Option (Int32 × eM) := fX11_frontOf_0 x1 M
section SX11_frontOf
variable {p : Program} {l : Launch} {e : Env} {s : State} {m : MethodId} {args : Array Value} {below : List Frame} {meth : Method} {cd : Code} {E : eE} {ids : List Nat} {res : Int32 × eM}
set_option maxHeartbeats 4000000 in
set_option maxRecDepth 20000 in
theorem wX11_frontOf_27 (C : ea_C p s m args meth cd cX11_frontOf 3 (some .int) RX11) (hY : ea_Y ids) : ∀  (M : eM) (H : Heap) (locs : List Loc) (ls : Array Slot), fX11_frontOf_27 M = some res → ea_w E ids M s H locs → lv_has ls 3 [] → W p l e (ea_rm 1 26) s m args below meth cd H locs 0 0 (MQ below (ea_Qi E ids res) args s 0 0 (ea_Ad E ids)) (F0 m 27 ls []) := by
  intro M H locs ls hf  hw hl
  replace hf := (fX11_frontOf_27.eq_1 ..).symm.trans hf
  refine lv_iconst (v := (-1 : Int32)) C.1 C.2.1 dX11_frontOf_27 (by decide) ?_
  refine lv_goto (tgt := 34) C.1 C.2.1 dX11_frontOf_28 (by decide) ?_
  exact ea_iret C hw hf dX11_frontOf_34
set_option maxHeartbeats 4000000 in
set_option maxRecDepth 20000 in
theorem wX11_frontOf_0 (C : ea_C p s m args meth cd cX11_frontOf 3 (some .int) RX11) (hY : ea_Y ids) : ∀ (x1 : Int32) (M : eM) (H : Heap) (locs : List Loc) (ls : Array Slot), fX11_frontOf_0 x1 M = some res → ea_w E ids M s H locs → lv_has ls 3 [(0, .ref (E.1 100)), (1, .int x1)] → W p l e (ea_rm 1 26) s m args below meth cd H locs 0 0 (MQ below (ea_Qi E ids res) args s 0 0 (ea_Ad E ids)) (F0 m 0 ls []) := by
  intro x1 M H locs ls hf  hw hl
  replace hf := (fX11_frontOf_0.eq_1 ..).symm.trans hf
  refine lv_aload_n C.1 C.2.1 dX11_frontOf_0 rfl (lv_at hl 0 rfl) ?_
  refine lv_iload_n C.1 C.2.1 dX11_frontOf_1 rfl (lv_at hl 1 rfl) ?_
  refine lv_iconst (v := 0) C.1 C.2.1 dX11_frontOf_2 (by decide) ?_
  refine lv_sipush (v := 999) C.1 C.2.1 dX11_frontOf_3 (by decide) ?_
  obtain ⟨r2, M3, he1, hf⟩ := ea_ci_s hf
  refine ea_runi2 hw (cl_X11_277 C hw (hY 100 11 rfl) (As := [.int x1, .int (0 : Int32), .int (999 : Int32)]) (rest := []) (mX11_lookAt (l := l) (E := E) (ids := ids) hY he1) (by decide) rfl hl.1 rfl (Nat.le_of_ble_eq_true rfl) dX11_frontOf_6 ⟨Nat.le_refl _, Nat.le_refl _⟩) (fun H locs hw => ?_)
  refine lv_istore_n (lv' := [(2, .int r2), (0, .ref (E.1 100)), (1, .int x1)]) C.1 C.2.1 dX11_frontOf_9 rfl hl (by decide) rfl (fun ls hl => ?_)
  refine lv_iload_n C.1 C.2.1 dX11_frontOf_10 rfl (lv_at hl 0 rfl) ?_
  refine lv_if_lt (tgt := 27) C.1 C.2.1 dX11_frontOf_11 (by decide) (fun hc4 => ?_) (fun hc4 => ?_)
  · replace hf := ea_if_t hc4 hf
    exact wX11_frontOf_27 C hY _ _ _ _ hf hw (lv_sub hl [] rfl)
  · replace hf := ea_if_f hc4 hf
    refine lv_aload_n C.1 C.2.1 dX11_frontOf_14 rfl (lv_at hl 1 rfl) ?_
    refine gf_X11_55 C hw (hY 100 11 rfl) dX11_frontOf_15 ?_
    refine W.eq (g2 := F0 m 18 ls [.ref (E.1 114)]) rfl ?_
    refine lv_iload_n C.1 C.2.1 dX11_frontOf_18 rfl (lv_at hl 0 rfl) ?_
    refine lv_bipush (v := 6) C.1 C.2.1 dX11_frontOf_19 (by decide) ?_
    refine lv_iadd C.1 C.2.1 dX11_frontOf_21 ?_
    obtain ⟨hc5, hf⟩ := ea_ck_s hf
    refine ea_iald C hw (show ea_ok ids 114 20 from ok_11_27 (hY 100 11 rfl)) hc5 dX11_frontOf_22 ?_
    refine lv_iconst (v := 1) C.1 C.2.1 dX11_frontOf_23 (by decide) ?_
    refine lv_icmp_ne (tgt := 31) C.1 C.2.1 dX11_frontOf_24 (by decide) (fun hc6 => ?_) (fun hc6 => ?_)
    · replace hf := ea_if_f hc6 hf
      refine lv_iload_n C.1 C.2.1 dX11_frontOf_31 rfl (lv_at hl 0 rfl) ?_
      refine lv_iconst (v := 3) C.1 C.2.1 dX11_frontOf_32 (by decide) ?_
      refine lv_iadd C.1 C.2.1 dX11_frontOf_33 ?_
      exact ea_iret C hw hf dX11_frontOf_34
    · replace hf := ea_if_t hc6 hf
      exact wX11_frontOf_27 C hY _ _ _ _ hf hw (lv_sub hl [] rfl)
set_option maxHeartbeats 4000000 in
set_option maxRecDepth 20000 in
theorem mX11_frontOf {l : Launch} {E : eE} {ids : List Nat} (hY : ea_Y ids) {x1 : Int32} {M : eM} {res : Int32 × eM} (hf : fX11_frontOf x1 M = some res) : ea_Mi l yX11_frontOf cX11_frontOf 3 (some .int) 1 26 E ids [.ref (E.1 100), .int x1] M res := by
  refine ea_goi (by decide) (Nat.le_of_ble_eq_true rfl) wc_X11_frontOf ?_
  intro p e s m below meth cd ls C hw hl
  exact wX11_frontOf_0 C hY _ _ _ _ _ hf hw hl
end SX11_frontOf

def fX11_isEye_0 (x1 : Int32) (M : eM) : Option (Int32 × eM) := ea_ci (fX11_in x1 (0 : Int32) ((M.1 102 (6 : Int32).toNatClampNeg) - (1 : Int32)) M) (fun r2 M3 => ea_ck (ea_01 r2) (some (r2, M3)))
def fX11_isEye (x1 : Int32) (M : eM) : Option (Int32 × eM) := fX11_isEye_0 x1 M
section SX11_isEye
variable {p : Program} {l : Launch} {e : Env} {s : State} {m : MethodId} {args : Array Value} {below : List Frame} {meth : Method} {cd : Code} {E : eE} {ids : List Nat} {res : Int32 × eM}
set_option maxHeartbeats 4000000 in
set_option maxRecDepth 20000 in
theorem wX11_isEye_0 (C : ea_C p s m args meth cd cX11_isEye 2 (some .boolean) RX11) (hY : ea_Y ids) : ∀ (x1 : Int32) (M : eM) (H : Heap) (locs : List Loc) (ls : Array Slot), fX11_isEye_0 x1 M = some res → ea_w E ids M s H locs → lv_has ls 2 [(0, .ref (E.1 100)), (1, .int x1)] → W p l e (ea_rm 1 22) s m args below meth cd H locs 0 0 (MQ below (ea_Qi E ids res) args s 0 0 (ea_Ad E ids)) (F0 m 0 ls []) := by
  intro x1 M H locs ls hf  hw hl
  replace hf := (fX11_isEye_0.eq_1 ..).symm.trans hf
  refine lv_iload_n C.1 C.2.1 dX11_isEye_0 rfl (lv_at hl 1 rfl) ?_
  refine lv_iconst (v := 0) C.1 C.2.1 dX11_isEye_1 (by decide) ?_
  refine lv_aload_n C.1 C.2.1 dX11_isEye_2 rfl (lv_at hl 0 rfl) ?_
  refine gf_X11_17 C hw (hY 100 11 rfl) dX11_isEye_3 ?_
  refine W.eq (g2 := F0 m 6 ls [.ref (E.1 102), .int (0 : Int32), .int x1]) rfl ?_
  refine lv_bipush (v := 6) C.1 C.2.1 dX11_isEye_6 (by decide) ?_
  refine ea_iald C hw (show ea_ok ids 102 20 from ok_11_12 (hY 100 11 rfl)) (by decide) dX11_isEye_8 ?_
  refine lv_iconst (v := 1) C.1 C.2.1 dX11_isEye_9 (by decide) ?_
  refine lv_isub C.1 C.2.1 dX11_isEye_10 ?_
  obtain ⟨r2, M3, he1, hf⟩ := ea_ci_s hf
  refine ea_runi2 hw (cl_X11_172 C hw (As := [.int x1, .int (0 : Int32), .int ((M.1 102 (6 : Int32).toNatClampNeg) - (1 : Int32))]) (rest := []) (mX11_in (l := l) (E := E) (ids := ids) hY he1) (by decide) rfl hl.1 rfl (Nat.le_of_ble_eq_true rfl) dX11_isEye_11 ⟨Nat.le_refl _, Nat.le_refl _⟩) (fun H locs hw => ?_)
  obtain ⟨hc4, hf⟩ := ea_ck_s hf
  exact ea_zret C hw (ea_01_s hc4) hf dX11_isEye_14
set_option maxHeartbeats 4000000 in
set_option maxRecDepth 20000 in
theorem mX11_isEye {l : Launch} {E : eE} {ids : List Nat} (hY : ea_Y ids) {x1 : Int32} {M : eM} {res : Int32 × eM} (hf : fX11_isEye x1 M = some res) : ea_Mi l yX11_isEye cX11_isEye 2 (some .boolean) 1 22 E ids [.ref (E.1 100), .int x1] M res := by
  refine ea_goi (by decide) (Nat.le_of_ble_eq_true rfl) wc_X11_isEye ?_
  intro p e s m below meth cd ls C hw hl
  exact wX11_isEye_0 C hY _ _ _ _ _ hf hw hl
end SX11_isEye

def fX11_spanEnd_56 (k5 : Int32 → Int32 → Int32 → Int32 → eM → Option (Int32 × eM)) (x1 : Int32) (x2 : Int32) (x3 : Int32) (x4 : Int32) (M : eM) : Option (Int32 × eM) := k5 x1 x2 x3 (x4 + (1 : Int32)) M
def fX11_spanEnd_53 (k5 : Int32 → Int32 → Int32 → Int32 → eM → Option (Int32 × eM)) (x1 : Int32) (x2 : Int32) (x4 : Int32) (x5 : Int32) (M : eM) : Option (Int32 × eM) := fX11_spanEnd_56 k5 x1 x2 x5 x4 M
def fX11_spanEnd_5 : Nat → Int32 → Int32 → Int32 → Int32 → eM → Option (Int32 × eM)
  | 0, _, _, _, _, _ => none
  | n + 1, x1, x2, x3, x4, M => if (M.1 100 33) ≤ x4 then (some (x3, M)) else (ea_ck (ea_ix x4 (ea_len 119)) (ea_ci (fX11_colourOf (M.1 119 x4.toNatClampNeg) (0 : Int32) x1 M) (fun r4 M5 => if x3 = (-1 : Int32) then (fX11_spanEnd_53 (fX11_spanEnd_5 n) x1 x2 x4 r4 M5) else (if x2 = 0 then (if x3 ≤ r4 then (fX11_spanEnd_56 (fX11_spanEnd_5 n) x1 x2 x3 x4 M5) else (fX11_spanEnd_53 (fX11_spanEnd_5 n) x1 x2 x4 r4 M5)) else (if r4 ≤ x3 then (fX11_spanEnd_56 (fX11_spanEnd_5 n) x1 x2 x3 x4 M5) else (fX11_spanEnd_53 (fX11_spanEnd_5 n) x1 x2 x4 r4 M5))))))
def fX11_spanEnd_0 (x1 : Int32) (x2 : Int32) (M : eM) : Option (Int32 × eM) := fX11_spanEnd_5 ea_N x1 x2 (-1 : Int32) (0 : Int32) M
def fX11_spanEnd (x1 : Int32) (x2 : Int32) (M : eM) : Option (Int32 × eM) := fX11_spanEnd_0 x1 x2 M
section SX11_spanEnd
variable {p : Program} {l : Launch} {e : Env} {s : State} {m : MethodId} {args : Array Value} {below : List Frame} {meth : Method} {cd : Code} {E : eE} {ids : List Nat} {res : Int32 × eM}
set_option maxHeartbeats 4000000 in
set_option maxRecDepth 20000 in
theorem wX11_spanEnd_56 (C : ea_C p s m args meth cd cX11_spanEnd 6 (some .int) RX11) (hY : ea_Y ids) {k5 : Int32 → Int32 → Int32 → Int32 → eM → Option (Int32 × eM)} (hk5 : ∀ (x1 : Int32) (x2 : Int32) (x3 : Int32) (x4 : Int32) (M : eM) (H : Heap) (locs : List Loc) (ls : Array Slot), k5 x1 x2 x3 x4 M = some res → ea_w E ids M s H locs → lv_has ls 6 [(0, .ref (E.1 100)), (1, .int x1), (2, .int x2), (3, .int x3), (4, .int x4)] → W p l e (ea_rm 4 91) s m args below meth cd H locs 0 0 (MQ below (ea_Qi E ids res) args s 0 0 (ea_Ad E ids)) (F0 m 5 ls [])) : ∀ (x1 : Int32) (x2 : Int32) (x3 : Int32) (x4 : Int32) (M : eM) (H : Heap) (locs : List Loc) (ls : Array Slot), fX11_spanEnd_56 k5 x1 x2 x3 x4 M = some res → ea_w E ids M s H locs → lv_has ls 6 [(0, .ref (E.1 100)), (1, .int x1), (2, .int x2), (3, .int x3), (4, .int x4)] → W p l e (ea_rm 4 91) s m args below meth cd H locs 0 0 (MQ below (ea_Qi E ids res) args s 0 0 (ea_Ad E ids)) (F0 m 56 ls []) := by
  intro x1 x2 x3 x4 M H locs ls hf  hw hl
  replace hf := (fX11_spanEnd_56.eq_1 ..).symm.trans hf
  refine lv_iinc (v := x4 + (1 : Int32)) (lv' := [(4, .int (x4 + (1 : Int32))), (0, .ref (E.1 100)), (1, .int x1), (2, .int x2), (3, .int x3)]) C.1 C.2.1 dX11_spanEnd_56 hl (k := 4) rfl rfl (by decide) rfl (fun ls hl => ?_)
  refine lv_goto (tgt := 5) C.1 C.2.1 dX11_spanEnd_59 (by decide) ?_
  exact hk5 _ _ _ _ _ _ _ _ hf hw (lv_sub hl [1, 2, 3, 4, 0] rfl)
set_option maxHeartbeats 4000000 in
set_option maxRecDepth 20000 in
theorem wX11_spanEnd_53 (C : ea_C p s m args meth cd cX11_spanEnd 6 (some .int) RX11) (hY : ea_Y ids) {k5 : Int32 → Int32 → Int32 → Int32 → eM → Option (Int32 × eM)} (hk5 : ∀ (x1 : Int32) (x2 : Int32) (x3 : Int32) (x4 : Int32) (M : eM) (H : Heap) (locs : List Loc) (ls : Array Slot), k5 x1 x2 x3 x4 M = some res → ea_w E ids M s H locs → lv_has ls 6 [(0, .ref (E.1 100)), (1, .int x1), (2, .int x2), (3, .int x3), (4, .int x4)] → W p l e (ea_rm 4 91) s m args below meth cd H locs 0 0 (MQ below (ea_Qi E ids res) args s 0 0 (ea_Ad E ids)) (F0 m 5 ls [])) : ∀ (x1 : Int32) (x2 : Int32) (x4 : Int32) (x5 : Int32) (M : eM) (H : Heap) (locs : List Loc) (ls : Array Slot), fX11_spanEnd_53 k5 x1 x2 x4 x5 M = some res → ea_w E ids M s H locs → lv_has ls 6 [(0, .ref (E.1 100)), (1, .int x1), (2, .int x2), (4, .int x4), (5, .int x5)] → W p l e (ea_rm 4 91) s m args below meth cd H locs 0 0 (MQ below (ea_Qi E ids res) args s 0 0 (ea_Ad E ids)) (F0 m 53 ls []) := by
  intro x1 x2 x4 x5 M H locs ls hf  hw hl
  replace hf := (fX11_spanEnd_53.eq_1 ..).symm.trans hf
  refine lv_iload C.1 C.2.1 dX11_spanEnd_53 (lv_at hl 4 rfl) ?_
  refine lv_istore_n (lv' := [(3, .int x5), (0, .ref (E.1 100)), (1, .int x1), (2, .int x2), (4, .int x4), (5, .int x5)]) C.1 C.2.1 dX11_spanEnd_55 rfl hl (by decide) rfl (fun ls hl => ?_)
  exact wX11_spanEnd_56 C hY hk5 _ _ _ _ _ _ _ _ hf hw (lv_sub hl [1, 2, 3, 0, 4] rfl)
set_option maxHeartbeats 4000000 in
set_option maxRecDepth 20000 in
theorem wX11_spanEnd_5 (C : ea_C p s m args meth cd cX11_spanEnd 6 (some .int) RX11) (hY : ea_Y ids) : ∀ (n : Nat) (x1 : Int32) (x2 : Int32) (x3 : Int32) (x4 : Int32) (M : eM) (H : Heap) (locs : List Loc) (ls : Array Slot), fX11_spanEnd_5 n x1 x2 x3 x4 M = some res → ea_w E ids M s H locs → lv_has ls 6 [(0, .ref (E.1 100)), (1, .int x1), (2, .int x2), (3, .int x3), (4, .int x4)] → W p l e (ea_rm 4 91) s m args below meth cd H locs 0 0 (MQ below (ea_Qi E ids res) args s 0 0 (ea_Ad E ids)) (F0 m 5 ls []) := by
  intro n
  induction n with
  | zero => intro x1 x2 x3 x4 M H locs ls hf; cases hf
  | succ n ih =>
    intro x1 x2 x3 x4 M H locs ls hf  hw hl
    replace hf := (fX11_spanEnd_5.eq_2 ..).symm.trans hf
    refine lv_iload C.1 C.2.1 dX11_spanEnd_5 (lv_at hl 4 rfl) ?_
    refine lv_aload_n C.1 C.2.1 dX11_spanEnd_7 rfl (lv_at hl 0 rfl) ?_
    refine gf_X11_300 C hw (hY 100 11 rfl) dX11_spanEnd_8 ?_
    refine lv_icmp_ge (tgt := 62) C.1 C.2.1 dX11_spanEnd_11 (by decide) (fun hc1 => ?_) (fun hc1 => ?_)
    · replace hf := ea_if_t hc1 hf
      refine lv_iload_n C.1 C.2.1 dX11_spanEnd_62 rfl (lv_at hl 3 rfl) ?_
      exact ea_iret C hw hf dX11_spanEnd_63
    · replace hf := ea_if_f hc1 hf
      refine lv_aload_n C.1 C.2.1 dX11_spanEnd_14 rfl (lv_at hl 0 rfl) ?_
      refine lv_aload_n C.1 C.2.1 dX11_spanEnd_15 rfl (lv_at hl 0 rfl) ?_
      refine gf_X11_71 C hw (hY 100 11 rfl) dX11_spanEnd_16 ?_
      refine W.eq (g2 := F0 m 19 ls [.ref (E.1 119), .ref (E.1 100)]) rfl ?_
      refine lv_iload C.1 C.2.1 dX11_spanEnd_19 (lv_at hl 4 rfl) ?_
      obtain ⟨hc2, hf⟩ := ea_ck_s hf
      refine ea_iald C hw (show ea_ok ids 119 20 from ok_11_35 (hY 100 11 rfl)) hc2 dX11_spanEnd_21 ?_
      refine lv_iconst (v := 0) C.1 C.2.1 dX11_spanEnd_22 (by decide) ?_
      refine lv_iload_n C.1 C.2.1 dX11_spanEnd_23 rfl (lv_at hl 1 rfl) ?_
      obtain ⟨r4, M5, he3, hf⟩ := ea_ci_s hf
      refine ea_runi2 hw (cl_X11_257 C hw (hY 100 11 rfl) (As := [.int (M.1 119 x4.toNatClampNeg), .int (0 : Int32), .int x1]) (rest := []) (mX11_colourOf (l := l) (E := E) (ids := ids) hY he3) (by decide) rfl hl.1 rfl (Nat.le_of_ble_eq_true rfl) dX11_spanEnd_24 ⟨Nat.le_refl _, Nat.le_refl _⟩) (fun H locs hw => ?_)
      refine lv_istore (lv' := [(5, .int r4), (0, .ref (E.1 100)), (1, .int x1), (2, .int x2), (3, .int x3), (4, .int x4)]) C.1 C.2.1 dX11_spanEnd_27 hl (by decide) rfl (fun ls hl => ?_)
      refine lv_iload_n C.1 C.2.1 dX11_spanEnd_29 rfl (lv_at hl 4 rfl) ?_
      refine lv_iconst (v := (-1 : Int32)) C.1 C.2.1 dX11_spanEnd_30 (by decide) ?_
      refine lv_icmp_eq (tgt := 53) C.1 C.2.1 dX11_spanEnd_31 (by decide) (fun hc6 => ?_) (fun hc6 => ?_)
      · replace hf := ea_if_t hc6 hf
        exact wX11_spanEnd_53 C hY ih _ _ _ _ _ _ _ _ hf hw (lv_sub hl [1, 2, 3, 5, 0] rfl)
      · replace hf := ea_if_f hc6 hf
        refine lv_iload_n C.1 C.2.1 dX11_spanEnd_34 rfl (lv_at hl 3 rfl) ?_
        refine lv_if_eq (tgt := 47) C.1 C.2.1 dX11_spanEnd_35 (by decide) (fun hc7 => ?_) (fun hc7 => ?_)
        · replace hf := ea_if_t hc7 hf
          refine lv_iload C.1 C.2.1 dX11_spanEnd_47 (lv_at hl 0 rfl) ?_
          refine lv_iload_n C.1 C.2.1 dX11_spanEnd_49 rfl (lv_at hl 4 rfl) ?_
          refine lv_icmp_ge (tgt := 56) C.1 C.2.1 dX11_spanEnd_50 (by decide) (fun hc8 => ?_) (fun hc8 => ?_)
          · replace hf := ea_if_t hc8 hf
            exact wX11_spanEnd_56 C hY ih _ _ _ _ _ _ _ _ hf hw (lv_sub hl [1, 2, 3, 4, 5] rfl)
          · replace hf := ea_if_f hc8 hf
            exact wX11_spanEnd_53 C hY ih _ _ _ _ _ _ _ _ hf hw (lv_sub hl [1, 2, 3, 5, 0] rfl)
        · replace hf := ea_if_f hc7 hf
          refine lv_iload C.1 C.2.1 dX11_spanEnd_38 (lv_at hl 0 rfl) ?_
          refine lv_iload_n C.1 C.2.1 dX11_spanEnd_40 rfl (lv_at hl 4 rfl) ?_
          refine lv_icmp_le (tgt := 56) C.1 C.2.1 dX11_spanEnd_41 (by decide) (fun hc9 => ?_) (fun hc9 => ?_)
          · replace hf := ea_if_t hc9 hf
            exact wX11_spanEnd_56 C hY ih _ _ _ _ _ _ _ _ hf hw (lv_sub hl [1, 2, 3, 4, 5] rfl)
          · replace hf := ea_if_f hc9 hf
            refine lv_goto (tgt := 53) C.1 C.2.1 dX11_spanEnd_44 (by decide) ?_
            exact wX11_spanEnd_53 C hY ih _ _ _ _ _ _ _ _ hf hw (lv_sub hl [1, 2, 3, 5, 0] rfl)
set_option maxHeartbeats 4000000 in
set_option maxRecDepth 20000 in
theorem wX11_spanEnd_0 (C : ea_C p s m args meth cd cX11_spanEnd 6 (some .int) RX11) (hY : ea_Y ids) : ∀ (x1 : Int32) (x2 : Int32) (M : eM) (H : Heap) (locs : List Loc) (ls : Array Slot), fX11_spanEnd_0 x1 x2 M = some res → ea_w E ids M s H locs → lv_has ls 6 [(0, .ref (E.1 100)), (1, .int x1), (2, .int x2)] → W p l e (ea_rm 4 91) s m args below meth cd H locs 0 0 (MQ below (ea_Qi E ids res) args s 0 0 (ea_Ad E ids)) (F0 m 0 ls []) := by
  intro x1 x2 M H locs ls hf  hw hl
  replace hf := (fX11_spanEnd_0.eq_1 ..).symm.trans hf
  refine lv_iconst (v := (-1 : Int32)) C.1 C.2.1 dX11_spanEnd_0 (by decide) ?_
  refine lv_istore_n (lv' := [(3, .int (-1 : Int32)), (0, .ref (E.1 100)), (1, .int x1), (2, .int x2)]) C.1 C.2.1 dX11_spanEnd_1 rfl hl (by decide) rfl (fun ls hl => ?_)
  refine lv_iconst (v := 0) C.1 C.2.1 dX11_spanEnd_2 (by decide) ?_
  refine lv_istore (lv' := [(4, .int (0 : Int32)), (3, .int (-1 : Int32)), (0, .ref (E.1 100)), (1, .int x1), (2, .int x2)]) C.1 C.2.1 dX11_spanEnd_3 hl (by decide) rfl (fun ls hl => ?_)
  exact wX11_spanEnd_5 C hY ea_N _ _ _ _ _ _ _ _ hf hw (lv_sub hl [2, 3, 4, 1, 0] rfl)
set_option maxHeartbeats 4000000 in
set_option maxRecDepth 20000 in
theorem mX11_spanEnd {l : Launch} {E : eE} {ids : List Nat} (hY : ea_Y ids) {x1 : Int32} {x2 : Int32} {M : eM} {res : Int32 × eM} (hf : fX11_spanEnd x1 x2 M = some res) : ea_Mi l yX11_spanEnd cX11_spanEnd 6 (some .int) 4 91 E ids [.ref (E.1 100), .int x1, .int x2] M res := by
  refine ea_goi (by decide) (Nat.le_of_ble_eq_true rfl) wc_X11_spanEnd ?_
  intro p e s m below meth cd ls C hw hl
  exact wX11_spanEnd_0 C hY _ _ _ _ _ _ hf hw hl
end SX11_spanEnd

def fX11_greyOf_12 (k43 : Int32 → eM → Option (Int32 × eM)) : Nat → Int32 → Int32 → Int32 → eM → Option (Int32 × eM)
  | 0, _, _, _, _ => none
  | n + 1, x1, x2, x3, M => if (3 : Int32) ≤ x3 then (k43 x2 M) else (ea_ci (fX11_spanEnd x3 (1 : Int32) M) (fun r3 M4 => ea_ci (fX11_spanEnd x3 (0 : Int32) M4) (fun r6 M7 => if (r3 - r6) ≤ x1 then (fX11_greyOf_12 k43 n x1 x2 (x3 + (1 : Int32)) M7) else (some ((50 : Int32), M7)))))
def fX11_greyOf_43 (x2 : Int32) (M : eM) : Option (Int32 × eM) := ea_ci (fX11_spanEnd x2 (0 : Int32) M) (fun r2 M3 => ea_ci (fX11_spanEnd x2 (1 : Int32) M3) (fun r5 M6 => some ((r2 + r5) / (2 : Int32), M6)))
def fX11_greyOf_0 (x1 : Int32) (x2 : Int32) (M : eM) : Option (Int32 × eM) := if (M.1 100 33) = 0 then (some ((50 : Int32), M)) else (fX11_greyOf_12 (fX11_greyOf_43) ea_N x1 x2 (0 : Int32) M)
def fX11_greyOf (x1 : Int32) (x2 : Int32) (M : eM) : Option (Int32 × eM) := fX11_greyOf_0 x1 x2 M
section SX11_greyOf
variable {p : Program} {l : Launch} {e : Env} {s : State} {m : MethodId} {args : Array Value} {below : List Frame} {meth : Method} {cd : Code} {E : eE} {ids : List Nat} {res : Int32 × eM}
set_option maxHeartbeats 4000000 in
set_option maxRecDepth 20000 in
theorem wX11_greyOf_12 (C : ea_C p s m args meth cd cX11_greyOf 4 (some .int) RX11) (hY : ea_Y ids) {k43 : Int32 → eM → Option (Int32 × eM)} (hk43 : ∀ (x2 : Int32) (M : eM) (H : Heap) (locs : List Loc) (ls : Array Slot), k43 x2 M = some res → ea_w E ids M s H locs → lv_has ls 4 [(0, .ref (E.1 100)), (2, .int x2)] → W p l e (ea_rm 5 116) s m args below meth cd H locs 0 0 (MQ below (ea_Qi E ids res) args s 0 0 (ea_Ad E ids)) (F0 m 43 ls [])) : ∀ (n : Nat) (x1 : Int32) (x2 : Int32) (x3 : Int32) (M : eM) (H : Heap) (locs : List Loc) (ls : Array Slot), fX11_greyOf_12 k43 n x1 x2 x3 M = some res → ea_w E ids M s H locs → lv_has ls 4 [(0, .ref (E.1 100)), (1, .int x1), (2, .int x2), (3, .int x3)] → W p l e (ea_rm 5 116) s m args below meth cd H locs 0 0 (MQ below (ea_Qi E ids res) args s 0 0 (ea_Ad E ids)) (F0 m 12 ls []) := by
  intro n
  induction n with
  | zero => intro x1 x2 x3 M H locs ls hf; cases hf
  | succ n ih =>
    intro x1 x2 x3 M H locs ls hf  hw hl
    replace hf := (fX11_greyOf_12.eq_2 ..).symm.trans hf
    refine lv_iload_n C.1 C.2.1 dX11_greyOf_12 rfl (lv_at hl 3 rfl) ?_
    refine lv_iconst (v := 3) C.1 C.2.1 dX11_greyOf_13 (by decide) ?_
    refine lv_icmp_ge (tgt := 43) C.1 C.2.1 dX11_greyOf_14 (by decide) (fun hc1 => ?_) (fun hc1 => ?_)
    · replace hf := ea_if_t hc1 hf
      exact hk43 _ _ _ _ _ hf hw (lv_sub hl [0, 2] rfl)
    · replace hf := ea_if_f hc1 hf
      refine lv_aload_n C.1 C.2.1 dX11_greyOf_17 rfl (lv_at hl 0 rfl) ?_
      refine lv_iload_n C.1 C.2.1 dX11_greyOf_18 rfl (lv_at hl 3 rfl) ?_
      refine lv_iconst (v := 1) C.1 C.2.1 dX11_greyOf_19 (by decide) ?_
      obtain ⟨r3, M4, he2, hf⟩ := ea_ci_s hf
      refine ea_runi2 hw (cl_X11_316 C hw (hY 100 11 rfl) (As := [.int x3, .int (1 : Int32)]) (rest := []) (mX11_spanEnd (l := l) (E := E) (ids := ids) hY he2) (by decide) rfl hl.1 rfl (Nat.le_of_ble_eq_true rfl) dX11_greyOf_20 ⟨Nat.le_refl _, Nat.le_refl _⟩) (fun H locs hw => ?_)
      refine lv_aload_n C.1 C.2.1 dX11_greyOf_23 rfl (lv_at hl 0 rfl) ?_
      refine lv_iload_n C.1 C.2.1 dX11_greyOf_24 rfl (lv_at hl 3 rfl) ?_
      refine lv_iconst (v := 0) C.1 C.2.1 dX11_greyOf_25 (by decide) ?_
      obtain ⟨r6, M7, he5, hf⟩ := ea_ci_s hf
      refine ea_runi2 hw (cl_X11_316 C hw (hY 100 11 rfl) (As := [.int x3, .int (0 : Int32)]) (rest := [.int r3]) (mX11_spanEnd (l := l) (E := E) (ids := ids) hY he5) (by decide) rfl hl.1 rfl (Nat.le_of_ble_eq_true rfl) dX11_greyOf_26 ⟨Nat.le_refl _, Nat.le_refl _⟩) (fun H locs hw => ?_)
      refine lv_isub C.1 C.2.1 dX11_greyOf_29 ?_
      refine lv_iload_n C.1 C.2.1 dX11_greyOf_30 rfl (lv_at hl 1 rfl) ?_
      refine lv_icmp_le (tgt := 37) C.1 C.2.1 dX11_greyOf_31 (by decide) (fun hc8 => ?_) (fun hc8 => ?_)
      · replace hf := ea_if_t hc8 hf
        refine lv_iinc (v := x3 + (1 : Int32)) (lv' := [(3, .int (x3 + (1 : Int32))), (0, .ref (E.1 100)), (1, .int x1), (2, .int x2)]) C.1 C.2.1 dX11_greyOf_37 hl (k := 3) rfl rfl (by decide) rfl (fun ls hl => ?_)
        refine lv_goto (tgt := 12) C.1 C.2.1 dX11_greyOf_40 (by decide) ?_
        exact ih _ _ _ _ _ _ _ hf hw (lv_sub hl [1, 2, 3, 0] rfl)
      · replace hf := ea_if_f hc8 hf
        refine lv_bipush (v := 50) C.1 C.2.1 dX11_greyOf_34 (by decide) ?_
        exact ea_iret C hw hf dX11_greyOf_36
set_option maxHeartbeats 4000000 in
set_option maxRecDepth 20000 in
theorem wX11_greyOf_43 (C : ea_C p s m args meth cd cX11_greyOf 4 (some .int) RX11) (hY : ea_Y ids) : ∀ (x2 : Int32) (M : eM) (H : Heap) (locs : List Loc) (ls : Array Slot), fX11_greyOf_43 x2 M = some res → ea_w E ids M s H locs → lv_has ls 4 [(0, .ref (E.1 100)), (2, .int x2)] → W p l e (ea_rm 5 116) s m args below meth cd H locs 0 0 (MQ below (ea_Qi E ids res) args s 0 0 (ea_Ad E ids)) (F0 m 43 ls []) := by
  intro x2 M H locs ls hf  hw hl
  replace hf := (fX11_greyOf_43.eq_1 ..).symm.trans hf
  refine lv_aload_n C.1 C.2.1 dX11_greyOf_43 rfl (lv_at hl 0 rfl) ?_
  refine lv_iload_n C.1 C.2.1 dX11_greyOf_44 rfl (lv_at hl 1 rfl) ?_
  refine lv_iconst (v := 0) C.1 C.2.1 dX11_greyOf_45 (by decide) ?_
  obtain ⟨r2, M3, he1, hf⟩ := ea_ci_s hf
  refine ea_runi2 hw (cl_X11_316 C hw (hY 100 11 rfl) (As := [.int x2, .int (0 : Int32)]) (rest := []) (mX11_spanEnd (l := l) (E := E) (ids := ids) hY he1) (by decide) rfl hl.1 rfl (Nat.le_of_ble_eq_true rfl) dX11_greyOf_46 ⟨Nat.le_refl _, Nat.le_refl _⟩) (fun H locs hw => ?_)
  refine lv_aload_n C.1 C.2.1 dX11_greyOf_49 rfl (lv_at hl 0 rfl) ?_
  refine lv_iload_n C.1 C.2.1 dX11_greyOf_50 rfl (lv_at hl 1 rfl) ?_
  refine lv_iconst (v := 1) C.1 C.2.1 dX11_greyOf_51 (by decide) ?_
  obtain ⟨r5, M6, he4, hf⟩ := ea_ci_s hf
  refine ea_runi2 hw (cl_X11_316 C hw (hY 100 11 rfl) (As := [.int x2, .int (1 : Int32)]) (rest := [.int r2]) (mX11_spanEnd (l := l) (E := E) (ids := ids) hY he4) (by decide) rfl hl.1 rfl (Nat.le_of_ble_eq_true rfl) dX11_greyOf_52 ⟨Nat.le_refl _, Nat.le_refl _⟩) (fun H locs hw => ?_)
  refine lv_iadd C.1 C.2.1 dX11_greyOf_55 ?_
  refine lv_iconst (v := 2) C.1 C.2.1 dX11_greyOf_56 (by decide) ?_
  refine lv_idiv C.1 C.2.1 dX11_greyOf_57 (by decide) ?_
  exact ea_iret C hw hf dX11_greyOf_58
set_option maxHeartbeats 4000000 in
set_option maxRecDepth 20000 in
theorem wX11_greyOf_0 (C : ea_C p s m args meth cd cX11_greyOf 4 (some .int) RX11) (hY : ea_Y ids) : ∀ (x1 : Int32) (x2 : Int32) (M : eM) (H : Heap) (locs : List Loc) (ls : Array Slot), fX11_greyOf_0 x1 x2 M = some res → ea_w E ids M s H locs → lv_has ls 4 [(0, .ref (E.1 100)), (1, .int x1), (2, .int x2)] → W p l e (ea_rm 5 116) s m args below meth cd H locs 0 0 (MQ below (ea_Qi E ids res) args s 0 0 (ea_Ad E ids)) (F0 m 0 ls []) := by
  intro x1 x2 M H locs ls hf  hw hl
  replace hf := (fX11_greyOf_0.eq_1 ..).symm.trans hf
  refine lv_aload_n C.1 C.2.1 dX11_greyOf_0 rfl (lv_at hl 0 rfl) ?_
  refine gf_X11_300 C hw (hY 100 11 rfl) dX11_greyOf_1 ?_
  refine lv_if_ne (tgt := 10) C.1 C.2.1 dX11_greyOf_4 (by decide) (fun hc1 => ?_) (fun hc1 => ?_)
  · replace hf := ea_if_f hc1 hf
    refine lv_iconst (v := 0) C.1 C.2.1 dX11_greyOf_10 (by decide) ?_
    refine lv_istore_n (lv' := [(3, .int (0 : Int32)), (0, .ref (E.1 100)), (1, .int x1), (2, .int x2)]) C.1 C.2.1 dX11_greyOf_11 rfl hl (by decide) rfl (fun ls hl => ?_)
    exact wX11_greyOf_12 C hY (wX11_greyOf_43 C hY) ea_N _ _ _ _ _ _ _ hf hw (lv_sub hl [1, 2, 3, 0] rfl)
  · replace hf := ea_if_t hc1 hf
    refine lv_bipush (v := 50) C.1 C.2.1 dX11_greyOf_7 (by decide) ?_
    exact ea_iret C hw hf dX11_greyOf_9
set_option maxHeartbeats 4000000 in
set_option maxRecDepth 20000 in
theorem mX11_greyOf {l : Launch} {E : eE} {ids : List Nat} (hY : ea_Y ids) {x1 : Int32} {x2 : Int32} {M : eM} {res : Int32 × eM} (hf : fX11_greyOf x1 x2 M = some res) : ea_Mi l yX11_greyOf cX11_greyOf 4 (some .int) 5 116 E ids [.ref (E.1 100), .int x1, .int x2] M res := by
  refine ea_goi (by decide) (Nat.le_of_ble_eq_true rfl) wc_X11_greyOf ?_
  intro p e s m below meth cd ls C hw hl
  exact wX11_greyOf_0 C hY _ _ _ _ _ _ hf hw hl
end SX11_greyOf

def fX11_seenBy_6 : Nat → Int32 → Int32 → Int32 → Int32 → Int32 → eM → Option (Int32 × eM)
  | 0, _, _, _, _, _, _ => none
  | n + 1, x1, x2, x3, x4, x5, M => if (3 : Int32) ≤ x5 then (some (x4, M)) else (ea_ck (ea_ix ((((9 : Int32) * x1) + ((3 : Int32) * x2)) + x5) (ea_len 109)) (ea_ck (ea_ix (x3 + x5) (ea_len 114)) (ea_ck (ea_ix x5 (ea_len 129)) (ea_lt (x4 + ((M.1 109 ((((9 : Int32) * x1) + ((3 : Int32) * x2)) + x5).toNatClampNeg) * (((M.1 114 (x3 + x5).toNatClampNeg) * (M.1 129 x5.toNatClampNeg)) / (100 : Int32)))) (fun y5 => fX11_seenBy_6 n x1 x2 x3 y5 (x5 + (1 : Int32)) M)))))
def fX11_seenBy_0 (x1 : Int32) (x2 : Int32) (x3 : Int32) (M : eM) : Option (Int32 × eM) := fX11_seenBy_6 ea_N x1 x2 x3 (0 : Int32) (0 : Int32) M
def fX11_seenBy (x1 : Int32) (x2 : Int32) (x3 : Int32) (M : eM) : Option (Int32 × eM) := fX11_seenBy_0 x1 x2 x3 M
section SX11_seenBy
variable {p : Program} {l : Launch} {e : Env} {s : State} {m : MethodId} {args : Array Value} {below : List Frame} {meth : Method} {cd : Code} {E : eE} {ids : List Nat} {res : Int32 × eM}
set_option maxHeartbeats 4000000 in
set_option maxRecDepth 20000 in
theorem wX11_seenBy_6 (C : ea_C p s m args meth cd cX11_seenBy 6 (some .int) RX11) (hY : ea_Y ids) : ∀ (n : Nat) (x1 : Int32) (x2 : Int32) (x3 : Int32) (x4 : Int32) (x5 : Int32) (M : eM) (H : Heap) (locs : List Loc) (ls : Array Slot), fX11_seenBy_6 n x1 x2 x3 x4 x5 M = some res → ea_w E ids M s H locs → lv_has ls 6 [(0, .ref (E.1 100)), (1, .int x1), (2, .int x2), (3, .int x3), (4, .int x4), (5, .int x5)] → W p l e (ea_rm 0 0) s m args below meth cd H locs 0 0 (MQ below (ea_Qi E ids res) args s 0 0 (ea_Ad E ids)) (F0 m 6 ls []) := by
  intro n
  induction n with
  | zero => intro x1 x2 x3 x4 x5 M H locs ls hf; cases hf
  | succ n ih =>
    intro x1 x2 x3 x4 x5 M H locs ls hf  hw hl
    replace hf := (fX11_seenBy_6.eq_2 ..).symm.trans hf
    refine lv_iload C.1 C.2.1 dX11_seenBy_6 (lv_at hl 5 rfl) ?_
    refine lv_iconst (v := 3) C.1 C.2.1 dX11_seenBy_8 (by decide) ?_
    refine lv_icmp_ge (tgt := 60) C.1 C.2.1 dX11_seenBy_9 (by decide) (fun hc1 => ?_) (fun hc1 => ?_)
    · replace hf := ea_if_t hc1 hf
      refine lv_iload C.1 C.2.1 dX11_seenBy_60 (lv_at hl 4 rfl) ?_
      exact ea_iret C hw hf dX11_seenBy_62
    · replace hf := ea_if_f hc1 hf
      refine lv_iload C.1 C.2.1 dX11_seenBy_12 (lv_at hl 4 rfl) ?_
      refine lv_aload_n C.1 C.2.1 dX11_seenBy_14 rfl (lv_at hl 0 rfl) ?_
      refine gf_X11_40 C hw (hY 100 11 rfl) dX11_seenBy_15 ?_
      refine W.eq (g2 := F0 m 18 ls [.ref (E.1 109), .int x4]) rfl ?_
      refine lv_bipush (v := 9) C.1 C.2.1 dX11_seenBy_18 (by decide) ?_
      refine lv_iload_n C.1 C.2.1 dX11_seenBy_20 rfl (lv_at hl 1 rfl) ?_
      refine lv_imul C.1 C.2.1 dX11_seenBy_21 ?_
      refine lv_iconst (v := 3) C.1 C.2.1 dX11_seenBy_22 (by decide) ?_
      refine lv_iload_n C.1 C.2.1 dX11_seenBy_23 rfl (lv_at hl 2 rfl) ?_
      refine lv_imul C.1 C.2.1 dX11_seenBy_24 ?_
      refine lv_iadd C.1 C.2.1 dX11_seenBy_25 ?_
      refine lv_iload C.1 C.2.1 dX11_seenBy_26 (lv_at hl 5 rfl) ?_
      refine lv_iadd C.1 C.2.1 dX11_seenBy_28 ?_
      obtain ⟨hc2, hf⟩ := ea_ck_s hf
      refine ea_iald C hw (show ea_ok ids 109 20 from ok_11_19 (hY 100 11 rfl)) hc2 dX11_seenBy_29 ?_
      refine lv_aload_n C.1 C.2.1 dX11_seenBy_30 rfl (lv_at hl 0 rfl) ?_
      refine gf_X11_55 C hw (hY 100 11 rfl) dX11_seenBy_31 ?_
      refine W.eq (g2 := F0 m 34 ls [.ref (E.1 114), .int (M.1 109 ((((9 : Int32) * x1) + ((3 : Int32) * x2)) + x5).toNatClampNeg), .int x4]) rfl ?_
      refine lv_iload_n C.1 C.2.1 dX11_seenBy_34 rfl (lv_at hl 3 rfl) ?_
      refine lv_iload C.1 C.2.1 dX11_seenBy_35 (lv_at hl 5 rfl) ?_
      refine lv_iadd C.1 C.2.1 dX11_seenBy_37 ?_
      obtain ⟨hc3, hf⟩ := ea_ck_s hf
      refine ea_iald C hw (show ea_ok ids 114 20 from ok_11_27 (hY 100 11 rfl)) hc3 dX11_seenBy_38 ?_
      refine lv_aload_n C.1 C.2.1 dX11_seenBy_39 rfl (lv_at hl 0 rfl) ?_
      refine gf_X11_101 C hw (hY 100 11 rfl) dX11_seenBy_40 ?_
      refine W.eq (g2 := F0 m 43 ls [.ref (E.1 129), .int (M.1 114 (x3 + x5).toNatClampNeg), .int (M.1 109 ((((9 : Int32) * x1) + ((3 : Int32) * x2)) + x5).toNatClampNeg), .int x4]) rfl ?_
      refine lv_iload C.1 C.2.1 dX11_seenBy_43 (lv_at hl 5 rfl) ?_
      obtain ⟨hc4, hf⟩ := ea_ck_s hf
      refine ea_iald C hw (show ea_ok ids 129 20 from ok_11_45 (hY 100 11 rfl)) hc4 dX11_seenBy_45 ?_
      refine lv_imul C.1 C.2.1 dX11_seenBy_46 ?_
      refine lv_bipush (v := 100) C.1 C.2.1 dX11_seenBy_47 (by decide) ?_
      refine lv_idiv C.1 C.2.1 dX11_seenBy_49 (by decide) ?_
      refine lv_imul C.1 C.2.1 dX11_seenBy_50 ?_
      refine lv_iadd C.1 C.2.1 dX11_seenBy_51 ?_
      obtain ⟨y5, ey6, hf⟩ := ea_lt_s hf
      refine ea_topi ey6 ?_
      refine lv_istore (lv' := [(4, .int y5), (0, .ref (E.1 100)), (1, .int x1), (2, .int x2), (3, .int x3), (5, .int x5)]) C.1 C.2.1 dX11_seenBy_52 hl (by decide) rfl (fun ls hl => ?_)
      refine lv_iinc (v := x5 + (1 : Int32)) (lv' := [(5, .int (x5 + (1 : Int32))), (4, .int y5), (0, .ref (E.1 100)), (1, .int x1), (2, .int x2), (3, .int x3)]) C.1 C.2.1 dX11_seenBy_54 hl (k := 5) rfl rfl (by decide) rfl (fun ls hl => ?_)
      refine lv_goto (tgt := 6) C.1 C.2.1 dX11_seenBy_57 (by decide) ?_
      exact ih _ _ _ _ _ _ _ _ _ hf hw (lv_sub hl [2, 3, 4, 5, 1, 0] rfl)
set_option maxHeartbeats 4000000 in
set_option maxRecDepth 20000 in
theorem wX11_seenBy_0 (C : ea_C p s m args meth cd cX11_seenBy 6 (some .int) RX11) (hY : ea_Y ids) : ∀ (x1 : Int32) (x2 : Int32) (x3 : Int32) (M : eM) (H : Heap) (locs : List Loc) (ls : Array Slot), fX11_seenBy_0 x1 x2 x3 M = some res → ea_w E ids M s H locs → lv_has ls 6 [(0, .ref (E.1 100)), (1, .int x1), (2, .int x2), (3, .int x3)] → W p l e (ea_rm 0 0) s m args below meth cd H locs 0 0 (MQ below (ea_Qi E ids res) args s 0 0 (ea_Ad E ids)) (F0 m 0 ls []) := by
  intro x1 x2 x3 M H locs ls hf  hw hl
  replace hf := (fX11_seenBy_0.eq_1 ..).symm.trans hf
  refine lv_iconst (v := 0) C.1 C.2.1 dX11_seenBy_0 (by decide) ?_
  refine lv_istore (lv' := [(4, .int (0 : Int32)), (0, .ref (E.1 100)), (1, .int x1), (2, .int x2), (3, .int x3)]) C.1 C.2.1 dX11_seenBy_1 hl (by decide) rfl (fun ls hl => ?_)
  refine lv_iconst (v := 0) C.1 C.2.1 dX11_seenBy_3 (by decide) ?_
  refine lv_istore (lv' := [(5, .int (0 : Int32)), (4, .int (0 : Int32)), (0, .ref (E.1 100)), (1, .int x1), (2, .int x2), (3, .int x3)]) C.1 C.2.1 dX11_seenBy_4 hl (by decide) rfl (fun ls hl => ?_)
  exact wX11_seenBy_6 C hY ea_N _ _ _ _ _ _ _ _ _ hf hw (lv_sub hl [2, 3, 4, 5, 1, 0] rfl)
set_option maxHeartbeats 4000000 in
set_option maxRecDepth 20000 in
theorem mX11_seenBy {l : Launch} {E : eE} {ids : List Nat} (hY : ea_Y ids) {x1 : Int32} {x2 : Int32} {x3 : Int32} {M : eM} {res : Int32 × eM} (hf : fX11_seenBy x1 x2 x3 M = some res) : ea_Mi l yX11_seenBy cX11_seenBy 6 (some .int) 0 0 E ids [.ref (E.1 100), .int x1, .int x2, .int x3] M res := by
  refine ea_goi (by decide) (Nat.le_of_ble_eq_true rfl) wc_X11_seenBy ?_
  intro p e s m below meth cd ls C hw hl
  exact wX11_seenBy_0 C hY _ _ _ _ _ _ _ hf hw hl
end SX11_seenBy

def fX11_throwLight_30 (k78 : Int32 → Int32 → Int32 → Int32 → eM → Option (eM)) : Nat → Int32 → Int32 → Int32 → Int32 → Int32 → eM → Option (eM)
  | 0, _, _, _, _, _, _ => none
  | n + 1, x2, x3, x5, x6, x7, M => if (3 : Int32) ≤ x7 then (k78 x2 x3 x5 x6 M) else (ea_ck (ea_ix x6 (ea_len 128)) (ea_ck (ea_ix ((((9 : Int32) * x3) + ((3 : Int32) * x6)) + x7) (ea_len 109)) (ea_ci (fX11_greyOf x5 x7 M) (fun r5 M6 => ea_ck (ea_ix x6 (ea_len 128)) (fX11_throwLight_30 k78 n x2 x3 x5 x6 (x7 + (1 : Int32)) (ea_pI M6 128 (x6.toNatClampNeg) ((M.1 128 x6.toNatClampNeg) + ((M.1 109 ((((9 : Int32) * x3) + ((3 : Int32) * x6)) + x7).toNatClampNeg) * r5))))))))
def fX11_throwLight_78 (k13 : Int32 → Int32 → Int32 → Int32 → eM → Option (eM)) (x2 : Int32) (x3 : Int32) (x5 : Int32) (x6 : Int32) (M : eM) : Option (eM) := k13 x2 x3 x5 (x6 + (1 : Int32)) M
def fX11_throwLight_13 (k84 : Int32 → Int32 → eM → Option (eM)) : Nat → Int32 → Int32 → Int32 → Int32 → eM → Option (eM)
  | 0, _, _, _, _, _ => none
  | n + 1, x2, x3, x5, x6, M => if (3 : Int32) ≤ x6 then (k84 x2 x3 M) else (ea_ck (ea_ix x6 (ea_len 128)) (fX11_throwLight_30 (fX11_throwLight_78 (fX11_throwLight_13 k84 n)) ea_N x2 x3 x5 x6 (0 : Int32) (ea_pI M 128 (x6.toNatClampNeg) (0 : Int32))))
def fX11_throwLight_212 (k171 : Int32 → Int32 → Int32 → Int32 → Int32 → Int32 → Int32 → Int32 → eM → Option (eM)) (x2 : Int32) (x3 : Int32) (x6 : Int32) (x7 : Int32) (x8 : Int32) (x9 : Int32) (x11 : Int32) (t0 : Int32) (M : eM) : Option (eM) := k171 x2 x3 x6 x7 x8 x9 t0 (x11 + (1 : Int32)) M
def fX11_throwLight_171 (k220 : Int32 → Int32 → Int32 → Int32 → Int32 → Int32 → Int32 → eM → Option (eM)) : Nat → Int32 → Int32 → Int32 → Int32 → Int32 → Int32 → Int32 → Int32 → eM → Option (eM)
  | 0, _, _, _, _, _, _, _, _, _ => none
  | n + 1, x2, x3, x6, x7, x8, x9, x10, x11, M => if (3 : Int32) ≤ x11 then (k220 x2 x3 x6 x7 x8 x9 x10 M) else (ea_ci (fX11_seenBy x3 x11 x2 M) (fun r3 M4 => ea_ck (ea_ix x11 (ea_len 128)) (ea_ci (fX11_plain (r3 - (M4.1 128 x11.toNatClampNeg)) M4) (fun r7 M8 => if r7 ≤ x10 then (fX11_throwLight_212 (fX11_throwLight_171 k220 n) x2 x3 x6 x7 x8 x9 x11 x10 M8) else (fX11_throwLight_212 (fX11_throwLight_171 k220 n) x2 x3 x6 x7 x8 x9 x11 r7 M8)))))
def fX11_throwLight_314 (k149 : Int32 → Int32 → Int32 → Int32 → Int32 → Int32 → eM → Option (eM)) (x2 : Int32) (x3 : Int32) (x6 : Int32) (x7 : Int32) (x8 : Int32) (x9 : Int32) (M : eM) : Option (eM) := k149 x2 x3 x6 x7 x8 x9 (ea_pI M 129 ((2 : Int32).toNatClampNeg) ((M.1 129 (2 : Int32).toNatClampNeg) + (10 : Int32)))
def fX11_throwLight_276 (k149 : Int32 → Int32 → Int32 → Int32 → Int32 → Int32 → eM → Option (eM)) (x2 : Int32) (x3 : Int32) (x6 : Int32) (x7 : Int32) (x8 : Int32) (x9 : Int32) (x10 : Int32) (t0 : Int32) (M : eM) : Option (eM) := if t0 = 0 then (fX11_throwLight_314 k149 x2 x3 x6 x7 x8 x9 M) else (ea_lt (M.1 129 (0 : Int32).toNatClampNeg) (fun y2 => ea_lt (M.1 129 (1 : Int32).toNatClampNeg) (fun y4 => ea_lt (M.1 129 (2 : Int32).toNatClampNeg) (fun y6 => fX11_throwLight_314 k149 x2 x3 y2 y4 y6 x10 M))))
def fX11_throwLight_271 (k149 : Int32 → Int32 → Int32 → Int32 → Int32 → Int32 → eM → Option (eM)) (x2 : Int32) (x3 : Int32) (x6 : Int32) (x7 : Int32) (x8 : Int32) (x9 : Int32) (x10 : Int32) (M : eM) : Option (eM) := fX11_throwLight_276 k149 x2 x3 x6 x7 x8 x9 x10 (1 : Int32) M
def fX11_throwLight_275 (k149 : Int32 → Int32 → Int32 → Int32 → Int32 → Int32 → eM → Option (eM)) (x2 : Int32) (x3 : Int32) (x6 : Int32) (x7 : Int32) (x8 : Int32) (x9 : Int32) (x10 : Int32) (M : eM) : Option (eM) := fX11_throwLight_276 k149 x2 x3 x6 x7 x8 x9 x10 (0 : Int32) M
def fX11_throwLight_220 (k149 : Int32 → Int32 → Int32 → Int32 → Int32 → Int32 → eM → Option (eM)) (x2 : Int32) (x3 : Int32) (x6 : Int32) (x7 : Int32) (x8 : Int32) (x9 : Int32) (x10 : Int32) (M : eM) : Option (eM) := if x9 = (-1 : Int32) then (fX11_throwLight_271 k149 x2 x3 x6 x7 x8 x9 x10 M) else (if x10 < x9 then (fX11_throwLight_271 k149 x2 x3 x6 x7 x8 x9 x10 M) else (if x10 = x9 then (if ((x6 + x7) + x8) ≤ (((M.1 129 (0 : Int32).toNatClampNeg) + (M.1 129 (1 : Int32).toNatClampNeg)) + (M.1 129 (2 : Int32).toNatClampNeg)) then (fX11_throwLight_275 k149 x2 x3 x6 x7 x8 x9 x10 M) else (fX11_throwLight_271 k149 x2 x3 x6 x7 x8 x9 x10 M)) else (fX11_throwLight_275 k149 x2 x3 x6 x7 x8 x9 x10 M)))
def fX11_throwLight_149 (k328 : Int32 → Int32 → Int32 → Int32 → Int32 → Int32 → eM → Option (eM)) : Nat → Int32 → Int32 → Int32 → Int32 → Int32 → Int32 → eM → Option (eM)
  | 0, _, _, _, _, _, _, _ => none
  | n + 1, x2, x3, x6, x7, x8, x9, M => if (M.1 102 (10 : Int32).toNatClampNeg) < (M.1 129 (2 : Int32).toNatClampNeg) then (k328 x2 x3 x6 x7 x8 x9 M) else (fX11_throwLight_171 (fX11_throwLight_220 (fX11_throwLight_149 k328 n)) ea_N x2 x3 x6 x7 x8 x9 (0 : Int32) (0 : Int32) M)
def fX11_throwLight_328 (k126 : Int32 → Int32 → Int32 → Int32 → Int32 → Int32 → eM → Option (eM)) (x2 : Int32) (x3 : Int32) (x6 : Int32) (x7 : Int32) (x8 : Int32) (x9 : Int32) (M : eM) : Option (eM) := k126 x2 x3 x6 x7 x8 x9 (ea_pI M 129 ((1 : Int32).toNatClampNeg) ((M.1 129 (1 : Int32).toNatClampNeg) + (10 : Int32)))
def fX11_throwLight_126 (k342 : Int32 → Int32 → Int32 → Int32 → Int32 → Int32 → eM → Option (eM)) : Nat → Int32 → Int32 → Int32 → Int32 → Int32 → Int32 → eM → Option (eM)
  | 0, _, _, _, _, _, _, _ => none
  | n + 1, x2, x3, x6, x7, x8, x9, M => if (M.1 102 (9 : Int32).toNatClampNeg) < (M.1 129 (1 : Int32).toNatClampNeg) then (k342 x2 x3 x6 x7 x8 x9 M) else (fX11_throwLight_149 (fX11_throwLight_328 (fX11_throwLight_126 k342 n)) ea_N x2 x3 x6 x7 x8 x9 (ea_pI M 129 ((2 : Int32).toNatClampNeg) (0 : Int32)))
def fX11_throwLight_342 (k103 : Int32 → Int32 → Int32 → Int32 → Int32 → Int32 → eM → Option (eM)) (x2 : Int32) (x3 : Int32) (x6 : Int32) (x7 : Int32) (x8 : Int32) (x9 : Int32) (M : eM) : Option (eM) := k103 x2 x3 x6 x7 x8 x9 (ea_pI M 129 ((0 : Int32).toNatClampNeg) ((M.1 129 (0 : Int32).toNatClampNeg) + (10 : Int32)))
def fX11_throwLight_103 (k356 : Int32 → Int32 → Int32 → Int32 → eM → Option (eM)) : Nat → Int32 → Int32 → Int32 → Int32 → Int32 → Int32 → eM → Option (eM)
  | 0, _, _, _, _, _, _, _ => none
  | n + 1, x2, x3, x6, x7, x8, x9, M => if (M.1 102 (8 : Int32).toNatClampNeg) < (M.1 129 (0 : Int32).toNatClampNeg) then (k356 x6 x7 x8 x9 M) else (fX11_throwLight_126 (fX11_throwLight_342 (fX11_throwLight_103 k356 n)) ea_N x2 x3 x6 x7 x8 x9 (ea_pI M 129 ((1 : Int32).toNatClampNeg) (0 : Int32)))
def fX11_throwLight_356 (x6 : Int32) (x7 : Int32) (x8 : Int32) (x9 : Int32) (M : eM) : Option (eM) := some (ea_pI (ea_pI (ea_pI (ea_pI M 129 ((0 : Int32).toNatClampNeg) x6) 129 ((1 : Int32).toNatClampNeg) x7) 129 ((2 : Int32).toNatClampNeg) x8) 100 46 x9)
def fX11_throwLight_84 (x2 : Int32) (x3 : Int32) (M : eM) : Option (eM) := fX11_throwLight_103 (fX11_throwLight_356) ea_N x2 x3 (0 : Int32) (0 : Int32) (0 : Int32) (-1 : Int32) (ea_pI M 129 ((0 : Int32).toNatClampNeg) (0 : Int32))
def fX11_throwLight_0 (x1 : Int32) (x2 : Int32) (x3 : Int32) (x4 : Int32) (x5 : Int32) (M : eM) : Option (eM) := ea_cv (fX11_findFits x1 x4 (999 : Int32) M) (fun M2 => fX11_throwLight_13 (fX11_throwLight_84) ea_N x2 x3 x5 (0 : Int32) M2)
def fX11_throwLight (x1 : Int32) (x2 : Int32) (x3 : Int32) (x4 : Int32) (x5 : Int32) (M : eM) : Option (eM) := fX11_throwLight_0 x1 x2 x3 x4 x5 M
section SX11_throwLight
variable {p : Program} {l : Launch} {e : Env} {s : State} {m : MethodId} {args : Array Value} {below : List Frame} {meth : Method} {cd : Code} {E : eE} {ids : List Nat} {res : eM}
set_option maxHeartbeats 4000000 in
set_option maxRecDepth 20000 in
theorem wX11_throwLight_30 (C : ea_C p s m args meth cd cX11_throwLight 13 none RX11) (hY : ea_Y ids) {k78 : Int32 → Int32 → Int32 → Int32 → eM → Option (eM)} (hk78 : ∀ (x2 : Int32) (x3 : Int32) (x5 : Int32) (x6 : Int32) (M : eM) (H : Heap) (locs : List Loc) (ls : Array Slot), k78 x2 x3 x5 x6 M = some res → ea_w E ids M s H locs → lv_has ls 13 [(0, .ref (E.1 100)), (2, .int x2), (3, .int x3), (5, .int x5), (6, .int x6)] → W p l e (ea_rm 6 143) s m args below meth cd H locs 0 0 (MQ below (ea_Qv E ids res) args s 0 0 (ea_Ad E ids)) (F0 m 78 ls [])) : ∀ (n : Nat) (x2 : Int32) (x3 : Int32) (x5 : Int32) (x6 : Int32) (x7 : Int32) (M : eM) (H : Heap) (locs : List Loc) (ls : Array Slot), fX11_throwLight_30 k78 n x2 x3 x5 x6 x7 M = some res → ea_w E ids M s H locs → lv_has ls 13 [(0, .ref (E.1 100)), (2, .int x2), (3, .int x3), (5, .int x5), (6, .int x6), (7, .int x7)] → W p l e (ea_rm 6 143) s m args below meth cd H locs 0 0 (MQ below (ea_Qv E ids res) args s 0 0 (ea_Ad E ids)) (F0 m 30 ls []) := by
  intro n
  induction n with
  | zero => intro x2 x3 x5 x6 x7 M H locs ls hf; cases hf
  | succ n ih =>
    intro x2 x3 x5 x6 x7 M H locs ls hf  hw hl
    replace hf := (fX11_throwLight_30.eq_2 ..).symm.trans hf
    refine lv_iload C.1 C.2.1 dX11_throwLight_30 (lv_at hl 5 rfl) ?_
    refine lv_iconst (v := 3) C.1 C.2.1 dX11_throwLight_32 (by decide) ?_
    refine lv_icmp_ge (tgt := 78) C.1 C.2.1 dX11_throwLight_33 (by decide) (fun hc1 => ?_) (fun hc1 => ?_)
    · replace hf := ea_if_t hc1 hf
      exact hk78 _ _ _ _ _ _ _ _ hf hw (lv_sub hl [0, 1, 2, 3, 4] rfl)
    · replace hf := ea_if_f hc1 hf
      refine lv_aload_n C.1 C.2.1 dX11_throwLight_36 rfl (lv_at hl 0 rfl) ?_
      refine gf_X11_98 C hw (hY 100 11 rfl) dX11_throwLight_37 ?_
      refine W.eq (g2 := F0 m 40 ls [.ref (E.1 128)]) rfl ?_
      refine lv_iload C.1 C.2.1 dX11_throwLight_40 (lv_at hl 4 rfl) ?_
      refine lv_dup2_11 C.1 C.2.1 dX11_throwLight_42 rfl rfl ?_
      obtain ⟨hc2, hf⟩ := ea_ck_s hf
      refine ea_iald C hw (show ea_ok ids 128 20 from ok_11_44 (hY 100 11 rfl)) hc2 dX11_throwLight_43 ?_
      refine lv_aload_n C.1 C.2.1 dX11_throwLight_44 rfl (lv_at hl 0 rfl) ?_
      refine gf_X11_40 C hw (hY 100 11 rfl) dX11_throwLight_45 ?_
      refine W.eq (g2 := F0 m 48 ls [.ref (E.1 109), .int (M.1 128 x6.toNatClampNeg), .int x6, .ref (E.1 128)]) rfl ?_
      refine lv_bipush (v := 9) C.1 C.2.1 dX11_throwLight_48 (by decide) ?_
      refine lv_iload_n C.1 C.2.1 dX11_throwLight_50 rfl (lv_at hl 2 rfl) ?_
      refine lv_imul C.1 C.2.1 dX11_throwLight_51 ?_
      refine lv_iconst (v := 3) C.1 C.2.1 dX11_throwLight_52 (by decide) ?_
      refine lv_iload C.1 C.2.1 dX11_throwLight_53 (lv_at hl 4 rfl) ?_
      refine lv_imul C.1 C.2.1 dX11_throwLight_55 ?_
      refine lv_iadd C.1 C.2.1 dX11_throwLight_56 ?_
      refine lv_iload C.1 C.2.1 dX11_throwLight_57 (lv_at hl 5 rfl) ?_
      refine lv_iadd C.1 C.2.1 dX11_throwLight_59 ?_
      obtain ⟨hc3, hf⟩ := ea_ck_s hf
      refine ea_iald C hw (show ea_ok ids 109 20 from ok_11_19 (hY 100 11 rfl)) hc3 dX11_throwLight_60 ?_
      refine lv_aload_n C.1 C.2.1 dX11_throwLight_61 rfl (lv_at hl 0 rfl) ?_
      refine lv_iload C.1 C.2.1 dX11_throwLight_62 (lv_at hl 3 rfl) ?_
      refine lv_iload C.1 C.2.1 dX11_throwLight_64 (lv_at hl 5 rfl) ?_
      obtain ⟨r5, M6, he4, hf⟩ := ea_ci_s hf
      refine ea_runi2 hw (cl_X11_323 C hw (hY 100 11 rfl) (As := [.int x5, .int x7]) (rest := [.int (M.1 109 ((((9 : Int32) * x3) + ((3 : Int32) * x6)) + x7).toNatClampNeg), .int (M.1 128 x6.toNatClampNeg), .int x6, .ref (E.1 128)]) (mX11_greyOf (l := l) (E := E) (ids := ids) hY he4) (by decide) rfl hl.1 rfl (Nat.le_of_ble_eq_true rfl) dX11_throwLight_66 ⟨Nat.le_refl _, Nat.le_refl _⟩) (fun H locs hw => ?_)
      refine lv_imul C.1 C.2.1 dX11_throwLight_69 ?_
      refine lv_iadd C.1 C.2.1 dX11_throwLight_70 ?_
      obtain ⟨hc7, hf⟩ := ea_ck_s hf
      refine ea_iast C hw (show ea_ok ids 128 20 from ok_11_44 (hY 100 11 rfl)) hc7 dX11_throwLight_71 (fun H locs hw => ?_)
      refine lv_iinc (v := x7 + (1 : Int32)) (lv' := [(7, .int (x7 + (1 : Int32))), (0, .ref (E.1 100)), (2, .int x2), (3, .int x3), (5, .int x5), (6, .int x6)]) C.1 C.2.1 dX11_throwLight_72 hl (k := 5) rfl rfl (by decide) rfl (fun ls hl => ?_)
      refine lv_goto (tgt := 30) C.1 C.2.1 dX11_throwLight_75 (by decide) ?_
      exact ih _ _ _ _ _ _ _ _ _ hf hw (lv_sub hl [1, 2, 3, 4, 5, 0] rfl)
set_option maxHeartbeats 4000000 in
set_option maxRecDepth 20000 in
theorem wX11_throwLight_78 (C : ea_C p s m args meth cd cX11_throwLight 13 none RX11) (hY : ea_Y ids) {k13 : Int32 → Int32 → Int32 → Int32 → eM → Option (eM)} (hk13 : ∀ (x2 : Int32) (x3 : Int32) (x5 : Int32) (x6 : Int32) (M : eM) (H : Heap) (locs : List Loc) (ls : Array Slot), k13 x2 x3 x5 x6 M = some res → ea_w E ids M s H locs → lv_has ls 13 [(0, .ref (E.1 100)), (2, .int x2), (3, .int x3), (5, .int x5), (6, .int x6)] → W p l e (ea_rm 6 143) s m args below meth cd H locs 0 0 (MQ below (ea_Qv E ids res) args s 0 0 (ea_Ad E ids)) (F0 m 13 ls [])) : ∀ (x2 : Int32) (x3 : Int32) (x5 : Int32) (x6 : Int32) (M : eM) (H : Heap) (locs : List Loc) (ls : Array Slot), fX11_throwLight_78 k13 x2 x3 x5 x6 M = some res → ea_w E ids M s H locs → lv_has ls 13 [(0, .ref (E.1 100)), (2, .int x2), (3, .int x3), (5, .int x5), (6, .int x6)] → W p l e (ea_rm 6 143) s m args below meth cd H locs 0 0 (MQ below (ea_Qv E ids res) args s 0 0 (ea_Ad E ids)) (F0 m 78 ls []) := by
  intro x2 x3 x5 x6 M H locs ls hf  hw hl
  replace hf := (fX11_throwLight_78.eq_1 ..).symm.trans hf
  refine lv_iinc (v := x6 + (1 : Int32)) (lv' := [(6, .int (x6 + (1 : Int32))), (0, .ref (E.1 100)), (2, .int x2), (3, .int x3), (5, .int x5)]) C.1 C.2.1 dX11_throwLight_78 hl (k := 4) rfl rfl (by decide) rfl (fun ls hl => ?_)
  refine lv_goto (tgt := 13) C.1 C.2.1 dX11_throwLight_81 (by decide) ?_
  exact hk13 _ _ _ _ _ _ _ _ hf hw (lv_sub hl [1, 2, 3, 4, 0] rfl)
set_option maxHeartbeats 4000000 in
set_option maxRecDepth 20000 in
theorem wX11_throwLight_13 (C : ea_C p s m args meth cd cX11_throwLight 13 none RX11) (hY : ea_Y ids) {k84 : Int32 → Int32 → eM → Option (eM)} (hk84 : ∀ (x2 : Int32) (x3 : Int32) (M : eM) (H : Heap) (locs : List Loc) (ls : Array Slot), k84 x2 x3 M = some res → ea_w E ids M s H locs → lv_has ls 13 [(0, .ref (E.1 100)), (2, .int x2), (3, .int x3)] → W p l e (ea_rm 6 143) s m args below meth cd H locs 0 0 (MQ below (ea_Qv E ids res) args s 0 0 (ea_Ad E ids)) (F0 m 84 ls [])) : ∀ (n : Nat) (x2 : Int32) (x3 : Int32) (x5 : Int32) (x6 : Int32) (M : eM) (H : Heap) (locs : List Loc) (ls : Array Slot), fX11_throwLight_13 k84 n x2 x3 x5 x6 M = some res → ea_w E ids M s H locs → lv_has ls 13 [(0, .ref (E.1 100)), (2, .int x2), (3, .int x3), (5, .int x5), (6, .int x6)] → W p l e (ea_rm 6 143) s m args below meth cd H locs 0 0 (MQ below (ea_Qv E ids res) args s 0 0 (ea_Ad E ids)) (F0 m 13 ls []) := by
  intro n
  induction n with
  | zero => intro x2 x3 x5 x6 M H locs ls hf; cases hf
  | succ n ih =>
    intro x2 x3 x5 x6 M H locs ls hf  hw hl
    replace hf := (fX11_throwLight_13.eq_2 ..).symm.trans hf
    refine lv_iload C.1 C.2.1 dX11_throwLight_13 (lv_at hl 4 rfl) ?_
    refine lv_iconst (v := 3) C.1 C.2.1 dX11_throwLight_15 (by decide) ?_
    refine lv_icmp_ge (tgt := 84) C.1 C.2.1 dX11_throwLight_16 (by decide) (fun hc1 => ?_) (fun hc1 => ?_)
    · replace hf := ea_if_t hc1 hf
      exact hk84 _ _ _ _ _ _ hf hw (lv_sub hl [0, 1, 2] rfl)
    · replace hf := ea_if_f hc1 hf
      refine lv_aload_n C.1 C.2.1 dX11_throwLight_19 rfl (lv_at hl 0 rfl) ?_
      refine gf_X11_98 C hw (hY 100 11 rfl) dX11_throwLight_20 ?_
      refine W.eq (g2 := F0 m 23 ls [.ref (E.1 128)]) rfl ?_
      refine lv_iload C.1 C.2.1 dX11_throwLight_23 (lv_at hl 4 rfl) ?_
      refine lv_iconst (v := 0) C.1 C.2.1 dX11_throwLight_25 (by decide) ?_
      obtain ⟨hc2, hf⟩ := ea_ck_s hf
      refine ea_iast C hw (show ea_ok ids 128 20 from ok_11_44 (hY 100 11 rfl)) hc2 dX11_throwLight_26 (fun H locs hw => ?_)
      refine lv_iconst (v := 0) C.1 C.2.1 dX11_throwLight_27 (by decide) ?_
      refine lv_istore (lv' := [(7, .int (0 : Int32)), (0, .ref (E.1 100)), (2, .int x2), (3, .int x3), (5, .int x5), (6, .int x6)]) C.1 C.2.1 dX11_throwLight_28 hl (by decide) rfl (fun ls hl => ?_)
      exact wX11_throwLight_30 C hY (wX11_throwLight_78 C hY ih) ea_N _ _ _ _ _ _ _ _ _ hf hw (lv_sub hl [1, 2, 3, 4, 5, 0] rfl)
set_option maxHeartbeats 4000000 in
set_option maxRecDepth 20000 in
theorem wX11_throwLight_212 (C : ea_C p s m args meth cd cX11_throwLight 13 none RX11) (hY : ea_Y ids) {k171 : Int32 → Int32 → Int32 → Int32 → Int32 → Int32 → Int32 → Int32 → eM → Option (eM)} (hk171 : ∀ (x2 : Int32) (x3 : Int32) (x6 : Int32) (x7 : Int32) (x8 : Int32) (x9 : Int32) (x10 : Int32) (x11 : Int32) (M : eM) (H : Heap) (locs : List Loc) (ls : Array Slot), k171 x2 x3 x6 x7 x8 x9 x10 x11 M = some res → ea_w E ids M s H locs → lv_has ls 13 [(0, .ref (E.1 100)), (2, .int x2), (3, .int x3), (6, .int x6), (7, .int x7), (8, .int x8), (9, .int x9), (10, .int x10), (11, .int x11)] → W p l e (ea_rm 6 143) s m args below meth cd H locs 0 0 (MQ below (ea_Qv E ids res) args s 0 0 (ea_Ad E ids)) (F0 m 171 ls [])) : ∀ (x2 : Int32) (x3 : Int32) (x6 : Int32) (x7 : Int32) (x8 : Int32) (x9 : Int32) (x11 : Int32) (t0 : Int32) (M : eM) (H : Heap) (locs : List Loc) (ls : Array Slot), fX11_throwLight_212 k171 x2 x3 x6 x7 x8 x9 x11 t0 M = some res → ea_w E ids M s H locs → lv_has ls 13 [(0, .ref (E.1 100)), (2, .int x2), (3, .int x3), (6, .int x6), (7, .int x7), (8, .int x8), (9, .int x9), (11, .int x11)] → W p l e (ea_rm 6 143) s m args below meth cd H locs 0 0 (MQ below (ea_Qv E ids res) args s 0 0 (ea_Ad E ids)) (F0 m 212 ls [.int t0]) := by
  intro x2 x3 x6 x7 x8 x9 x11 t0 M H locs ls hf  hw hl
  replace hf := (fX11_throwLight_212.eq_1 ..).symm.trans hf
  refine lv_istore (lv' := [(10, .int t0), (0, .ref (E.1 100)), (2, .int x2), (3, .int x3), (6, .int x6), (7, .int x7), (8, .int x8), (9, .int x9), (11, .int x11)]) C.1 C.2.1 dX11_throwLight_212 hl (by decide) rfl (fun ls hl => ?_)
  refine lv_iinc (v := x11 + (1 : Int32)) (lv' := [(11, .int (x11 + (1 : Int32))), (10, .int t0), (0, .ref (E.1 100)), (2, .int x2), (3, .int x3), (6, .int x6), (7, .int x7), (8, .int x8), (9, .int x9)]) C.1 C.2.1 dX11_throwLight_214 hl (k := 8) rfl rfl (by decide) rfl (fun ls hl => ?_)
  refine lv_goto (tgt := 171) C.1 C.2.1 dX11_throwLight_217 (by decide) ?_
  exact hk171 _ _ _ _ _ _ _ _ _ _ _ _ hf hw (lv_sub hl [2, 3, 4, 5, 6, 7, 8, 1, 0] rfl)
set_option maxHeartbeats 4000000 in
set_option maxRecDepth 20000 in
theorem wX11_throwLight_171 (C : ea_C p s m args meth cd cX11_throwLight 13 none RX11) (hY : ea_Y ids) {k220 : Int32 → Int32 → Int32 → Int32 → Int32 → Int32 → Int32 → eM → Option (eM)} (hk220 : ∀ (x2 : Int32) (x3 : Int32) (x6 : Int32) (x7 : Int32) (x8 : Int32) (x9 : Int32) (x10 : Int32) (M : eM) (H : Heap) (locs : List Loc) (ls : Array Slot), k220 x2 x3 x6 x7 x8 x9 x10 M = some res → ea_w E ids M s H locs → lv_has ls 13 [(0, .ref (E.1 100)), (2, .int x2), (3, .int x3), (6, .int x6), (7, .int x7), (8, .int x8), (9, .int x9), (10, .int x10)] → W p l e (ea_rm 6 143) s m args below meth cd H locs 0 0 (MQ below (ea_Qv E ids res) args s 0 0 (ea_Ad E ids)) (F0 m 220 ls [])) : ∀ (n : Nat) (x2 : Int32) (x3 : Int32) (x6 : Int32) (x7 : Int32) (x8 : Int32) (x9 : Int32) (x10 : Int32) (x11 : Int32) (M : eM) (H : Heap) (locs : List Loc) (ls : Array Slot), fX11_throwLight_171 k220 n x2 x3 x6 x7 x8 x9 x10 x11 M = some res → ea_w E ids M s H locs → lv_has ls 13 [(0, .ref (E.1 100)), (2, .int x2), (3, .int x3), (6, .int x6), (7, .int x7), (8, .int x8), (9, .int x9), (10, .int x10), (11, .int x11)] → W p l e (ea_rm 6 143) s m args below meth cd H locs 0 0 (MQ below (ea_Qv E ids res) args s 0 0 (ea_Ad E ids)) (F0 m 171 ls []) := by
  intro n
  induction n with
  | zero => intro x2 x3 x6 x7 x8 x9 x10 x11 M H locs ls hf; cases hf
  | succ n ih =>
    intro x2 x3 x6 x7 x8 x9 x10 x11 M H locs ls hf  hw hl
    replace hf := (fX11_throwLight_171.eq_2 ..).symm.trans hf
    refine lv_iload C.1 C.2.1 dX11_throwLight_171 (lv_at hl 8 rfl) ?_
    refine lv_iconst (v := 3) C.1 C.2.1 dX11_throwLight_173 (by decide) ?_
    refine lv_icmp_ge (tgt := 220) C.1 C.2.1 dX11_throwLight_174 (by decide) (fun hc1 => ?_) (fun hc1 => ?_)
    · replace hf := ea_if_t hc1 hf
      exact hk220 _ _ _ _ _ _ _ _ _ _ _ hf hw (lv_sub hl [0, 1, 2, 3, 4, 5, 6, 7] rfl)
    · replace hf := ea_if_f hc1 hf
      refine lv_aload_n C.1 C.2.1 dX11_throwLight_177 rfl (lv_at hl 0 rfl) ?_
      refine lv_iload_n C.1 C.2.1 dX11_throwLight_178 rfl (lv_at hl 2 rfl) ?_
      refine lv_iload C.1 C.2.1 dX11_throwLight_179 (lv_at hl 8 rfl) ?_
      refine lv_iload_n C.1 C.2.1 dX11_throwLight_181 rfl (lv_at hl 1 rfl) ?_
      obtain ⟨r3, M4, he2, hf⟩ := ea_ci_s hf
      refine ea_runi2 hw (cl_X11_339 C hw (hY 100 11 rfl) (As := [.int x3, .int x11, .int x2]) (rest := []) (mX11_seenBy (l := l) (E := E) (ids := ids) hY he2) (by decide) rfl hl.1 rfl (Nat.le_of_ble_eq_true rfl) dX11_throwLight_182 ⟨Nat.le_refl _, Nat.le_refl _⟩) (fun H locs hw => ?_)
      refine lv_aload_n C.1 C.2.1 dX11_throwLight_185 rfl (lv_at hl 0 rfl) ?_
      refine gf_X11_98 C hw (hY 100 11 rfl) dX11_throwLight_186 ?_
      refine W.eq (g2 := F0 m 189 ls [.ref (E.1 128), .int r3]) rfl ?_
      refine lv_iload C.1 C.2.1 dX11_throwLight_189 (lv_at hl 8 rfl) ?_
      obtain ⟨hc5, hf⟩ := ea_ck_s hf
      refine ea_iald C hw (show ea_ok ids 128 20 from ok_11_44 (hY 100 11 rfl)) hc5 dX11_throwLight_191 ?_
      refine lv_isub C.1 C.2.1 dX11_throwLight_192 ?_
      obtain ⟨r7, M8, he6, hf⟩ := ea_ci_s hf
      refine ea_runi2 hw (cl_X11_290 C hw (As := [.int (r3 - (M4.1 128 x11.toNatClampNeg))]) (rest := []) (mX11_plain (l := l) (E := E) (ids := ids) hY he6) (by decide) rfl hl.1 rfl (Nat.le_of_ble_eq_true rfl) dX11_throwLight_193 ⟨Nat.le_refl _, Nat.le_refl _⟩) (fun H locs hw => ?_)
      refine lv_istore (lv' := [(12, .int r7), (0, .ref (E.1 100)), (2, .int x2), (3, .int x3), (6, .int x6), (7, .int x7), (8, .int x8), (9, .int x9), (10, .int x10), (11, .int x11)]) C.1 C.2.1 dX11_throwLight_196 hl (by decide) rfl (fun ls hl => ?_)
      refine lv_iload C.1 C.2.1 dX11_throwLight_198 (lv_at hl 0 rfl) ?_
      refine lv_iload C.1 C.2.1 dX11_throwLight_200 (lv_at hl 8 rfl) ?_
      refine lv_icmp_le (tgt := 210) C.1 C.2.1 dX11_throwLight_202 (by decide) (fun hc9 => ?_) (fun hc9 => ?_)
      · replace hf := ea_if_t hc9 hf
        refine lv_iload C.1 C.2.1 dX11_throwLight_210 (lv_at hl 8 rfl) ?_
        exact wX11_throwLight_212 C hY ih _ _ _ _ _ _ _ _ _ _ _ _ hf hw (lv_sub hl [1, 2, 3, 4, 5, 6, 7, 9] rfl)
      · replace hf := ea_if_f hc9 hf
        refine lv_iload C.1 C.2.1 dX11_throwLight_205 (lv_at hl 0 rfl) ?_
        refine lv_goto (tgt := 212) C.1 C.2.1 dX11_throwLight_207 (by decide) ?_
        exact wX11_throwLight_212 C hY ih _ _ _ _ _ _ _ _ _ _ _ _ hf hw (lv_sub hl [1, 2, 3, 4, 5, 6, 7, 9] rfl)
set_option maxHeartbeats 4000000 in
set_option maxRecDepth 20000 in
theorem wX11_throwLight_314 (C : ea_C p s m args meth cd cX11_throwLight 13 none RX11) (hY : ea_Y ids) {k149 : Int32 → Int32 → Int32 → Int32 → Int32 → Int32 → eM → Option (eM)} (hk149 : ∀ (x2 : Int32) (x3 : Int32) (x6 : Int32) (x7 : Int32) (x8 : Int32) (x9 : Int32) (M : eM) (H : Heap) (locs : List Loc) (ls : Array Slot), k149 x2 x3 x6 x7 x8 x9 M = some res → ea_w E ids M s H locs → lv_has ls 13 [(0, .ref (E.1 100)), (2, .int x2), (3, .int x3), (6, .int x6), (7, .int x7), (8, .int x8), (9, .int x9)] → W p l e (ea_rm 6 143) s m args below meth cd H locs 0 0 (MQ below (ea_Qv E ids res) args s 0 0 (ea_Ad E ids)) (F0 m 149 ls [])) : ∀ (x2 : Int32) (x3 : Int32) (x6 : Int32) (x7 : Int32) (x8 : Int32) (x9 : Int32) (M : eM) (H : Heap) (locs : List Loc) (ls : Array Slot), fX11_throwLight_314 k149 x2 x3 x6 x7 x8 x9 M = some res → ea_w E ids M s H locs → lv_has ls 13 [(0, .ref (E.1 100)), (2, .int x2), (3, .int x3), (6, .int x6), (7, .int x7), (8, .int x8), (9, .int x9)] → W p l e (ea_rm 6 143) s m args below meth cd H locs 0 0 (MQ below (ea_Qv E ids res) args s 0 0 (ea_Ad E ids)) (F0 m 314 ls []) := by
  intro x2 x3 x6 x7 x8 x9 M H locs ls hf  hw hl
  replace hf := (fX11_throwLight_314.eq_1 ..).symm.trans hf
  refine lv_aload_n C.1 C.2.1 dX11_throwLight_314 rfl (lv_at hl 0 rfl) ?_
  refine gf_X11_101 C hw (hY 100 11 rfl) dX11_throwLight_315 ?_
  refine W.eq (g2 := F0 m 318 ls [.ref (E.1 129)]) rfl ?_
  refine lv_iconst (v := 2) C.1 C.2.1 dX11_throwLight_318 (by decide) ?_
  refine lv_dup2_11 C.1 C.2.1 dX11_throwLight_319 rfl rfl ?_
  refine ea_iald C hw (show ea_ok ids 129 20 from ok_11_45 (hY 100 11 rfl)) (by decide) dX11_throwLight_320 ?_
  refine lv_bipush (v := 10) C.1 C.2.1 dX11_throwLight_321 (by decide) ?_
  refine lv_iadd C.1 C.2.1 dX11_throwLight_323 ?_
  refine ea_iast C hw (show ea_ok ids 129 20 from ok_11_45 (hY 100 11 rfl)) (by decide) dX11_throwLight_324 (fun H locs hw => ?_)
  refine lv_goto (tgt := 149) C.1 C.2.1 dX11_throwLight_325 (by decide) ?_
  exact hk149 _ _ _ _ _ _ _ _ _ _ hf hw (lv_sub hl [0, 1, 2, 3, 4, 5, 6] rfl)
set_option maxHeartbeats 4000000 in
set_option maxRecDepth 20000 in
theorem wX11_throwLight_276 (C : ea_C p s m args meth cd cX11_throwLight 13 none RX11) (hY : ea_Y ids) {k149 : Int32 → Int32 → Int32 → Int32 → Int32 → Int32 → eM → Option (eM)} (hk149 : ∀ (x2 : Int32) (x3 : Int32) (x6 : Int32) (x7 : Int32) (x8 : Int32) (x9 : Int32) (M : eM) (H : Heap) (locs : List Loc) (ls : Array Slot), k149 x2 x3 x6 x7 x8 x9 M = some res → ea_w E ids M s H locs → lv_has ls 13 [(0, .ref (E.1 100)), (2, .int x2), (3, .int x3), (6, .int x6), (7, .int x7), (8, .int x8), (9, .int x9)] → W p l e (ea_rm 6 143) s m args below meth cd H locs 0 0 (MQ below (ea_Qv E ids res) args s 0 0 (ea_Ad E ids)) (F0 m 149 ls [])) : ∀ (x2 : Int32) (x3 : Int32) (x6 : Int32) (x7 : Int32) (x8 : Int32) (x9 : Int32) (x10 : Int32) (t0 : Int32) (M : eM) (H : Heap) (locs : List Loc) (ls : Array Slot), fX11_throwLight_276 k149 x2 x3 x6 x7 x8 x9 x10 t0 M = some res → ea_w E ids M s H locs → lv_has ls 13 [(0, .ref (E.1 100)), (2, .int x2), (3, .int x3), (6, .int x6), (7, .int x7), (8, .int x8), (9, .int x9), (10, .int x10)] → W p l e (ea_rm 6 143) s m args below meth cd H locs 0 0 (MQ below (ea_Qv E ids res) args s 0 0 (ea_Ad E ids)) (F0 m 276 ls [.int t0]) := by
  intro x2 x3 x6 x7 x8 x9 x10 t0 M H locs ls hf  hw hl
  replace hf := (fX11_throwLight_276.eq_1 ..).symm.trans hf
  refine lv_istore (lv' := [(11, .int t0), (0, .ref (E.1 100)), (2, .int x2), (3, .int x3), (6, .int x6), (7, .int x7), (8, .int x8), (9, .int x9), (10, .int x10)]) C.1 C.2.1 dX11_throwLight_276 hl (by decide) rfl (fun ls hl => ?_)
  refine lv_iload C.1 C.2.1 dX11_throwLight_278 (lv_at hl 0 rfl) ?_
  refine lv_if_ne (tgt := 286) C.1 C.2.1 dX11_throwLight_280 (by decide) (fun hc1 => ?_) (fun hc1 => ?_)
  · replace hf := ea_if_f hc1 hf
    refine lv_iload C.1 C.2.1 dX11_throwLight_286 (lv_at hl 8 rfl) ?_
    refine lv_istore (lv' := [(9, .int x10), (11, .int t0), (0, .ref (E.1 100)), (2, .int x2), (3, .int x3), (6, .int x6), (7, .int x7), (8, .int x8), (10, .int x10)]) C.1 C.2.1 dX11_throwLight_288 hl (by decide) rfl (fun ls hl => ?_)
    refine lv_aload_n C.1 C.2.1 dX11_throwLight_290 rfl (lv_at hl 2 rfl) ?_
    refine gf_X11_101 C hw (hY 100 11 rfl) dX11_throwLight_291 ?_
    refine W.eq (g2 := F0 m 294 ls [.ref (E.1 129)]) rfl ?_
    refine lv_iconst (v := 0) C.1 C.2.1 dX11_throwLight_294 (by decide) ?_
    refine ea_iald C hw (show ea_ok ids 129 20 from ok_11_45 (hY 100 11 rfl)) (by decide) dX11_throwLight_295 ?_
    obtain ⟨y2, ey3, hf⟩ := ea_lt_s hf
    refine ea_topi ey3 ?_
    refine lv_istore (lv' := [(6, .int y2), (9, .int x10), (11, .int t0), (0, .ref (E.1 100)), (2, .int x2), (3, .int x3), (7, .int x7), (8, .int x8), (10, .int x10)]) C.1 C.2.1 dX11_throwLight_296 hl (by decide) rfl (fun ls hl => ?_)
    refine lv_aload_n C.1 C.2.1 dX11_throwLight_298 rfl (lv_at hl 3 rfl) ?_
    refine gf_X11_101 C hw (hY 100 11 rfl) dX11_throwLight_299 ?_
    refine W.eq (g2 := F0 m 302 ls [.ref (E.1 129)]) rfl ?_
    refine lv_iconst (v := 1) C.1 C.2.1 dX11_throwLight_302 (by decide) ?_
    refine ea_iald C hw (show ea_ok ids 129 20 from ok_11_45 (hY 100 11 rfl)) (by decide) dX11_throwLight_303 ?_
    obtain ⟨y4, ey5, hf⟩ := ea_lt_s hf
    refine ea_topi ey5 ?_
    refine lv_istore (lv' := [(7, .int y4), (6, .int y2), (9, .int x10), (11, .int t0), (0, .ref (E.1 100)), (2, .int x2), (3, .int x3), (8, .int x8), (10, .int x10)]) C.1 C.2.1 dX11_throwLight_304 hl (by decide) rfl (fun ls hl => ?_)
    refine lv_aload_n C.1 C.2.1 dX11_throwLight_306 rfl (lv_at hl 4 rfl) ?_
    refine gf_X11_101 C hw (hY 100 11 rfl) dX11_throwLight_307 ?_
    refine W.eq (g2 := F0 m 310 ls [.ref (E.1 129)]) rfl ?_
    refine lv_iconst (v := 2) C.1 C.2.1 dX11_throwLight_310 (by decide) ?_
    refine ea_iald C hw (show ea_ok ids 129 20 from ok_11_45 (hY 100 11 rfl)) (by decide) dX11_throwLight_311 ?_
    obtain ⟨y6, ey7, hf⟩ := ea_lt_s hf
    refine ea_topi ey7 ?_
    refine lv_istore (lv' := [(8, .int y6), (7, .int y4), (6, .int y2), (9, .int x10), (11, .int t0), (0, .ref (E.1 100)), (2, .int x2), (3, .int x3), (10, .int x10)]) C.1 C.2.1 dX11_throwLight_312 hl (by decide) rfl (fun ls hl => ?_)
    exact wX11_throwLight_314 C hY hk149 _ _ _ _ _ _ _ _ _ _ hf hw (lv_sub hl [5, 6, 7, 2, 1, 0, 3] rfl)
  · replace hf := ea_if_t hc1 hf
    refine lv_goto (tgt := 314) C.1 C.2.1 dX11_throwLight_283 (by decide) ?_
    exact wX11_throwLight_314 C hY hk149 _ _ _ _ _ _ _ _ _ _ hf hw (lv_sub hl [1, 2, 3, 4, 5, 6, 7] rfl)
set_option maxHeartbeats 4000000 in
set_option maxRecDepth 20000 in
theorem wX11_throwLight_271 (C : ea_C p s m args meth cd cX11_throwLight 13 none RX11) (hY : ea_Y ids) {k149 : Int32 → Int32 → Int32 → Int32 → Int32 → Int32 → eM → Option (eM)} (hk149 : ∀ (x2 : Int32) (x3 : Int32) (x6 : Int32) (x7 : Int32) (x8 : Int32) (x9 : Int32) (M : eM) (H : Heap) (locs : List Loc) (ls : Array Slot), k149 x2 x3 x6 x7 x8 x9 M = some res → ea_w E ids M s H locs → lv_has ls 13 [(0, .ref (E.1 100)), (2, .int x2), (3, .int x3), (6, .int x6), (7, .int x7), (8, .int x8), (9, .int x9)] → W p l e (ea_rm 6 143) s m args below meth cd H locs 0 0 (MQ below (ea_Qv E ids res) args s 0 0 (ea_Ad E ids)) (F0 m 149 ls [])) : ∀ (x2 : Int32) (x3 : Int32) (x6 : Int32) (x7 : Int32) (x8 : Int32) (x9 : Int32) (x10 : Int32) (M : eM) (H : Heap) (locs : List Loc) (ls : Array Slot), fX11_throwLight_271 k149 x2 x3 x6 x7 x8 x9 x10 M = some res → ea_w E ids M s H locs → lv_has ls 13 [(0, .ref (E.1 100)), (2, .int x2), (3, .int x3), (6, .int x6), (7, .int x7), (8, .int x8), (9, .int x9), (10, .int x10)] → W p l e (ea_rm 6 143) s m args below meth cd H locs 0 0 (MQ below (ea_Qv E ids res) args s 0 0 (ea_Ad E ids)) (F0 m 271 ls []) := by
  intro x2 x3 x6 x7 x8 x9 x10 M H locs ls hf  hw hl
  replace hf := (fX11_throwLight_271.eq_1 ..).symm.trans hf
  refine lv_iconst (v := 1) C.1 C.2.1 dX11_throwLight_271 (by decide) ?_
  refine lv_goto (tgt := 276) C.1 C.2.1 dX11_throwLight_272 (by decide) ?_
  exact wX11_throwLight_276 C hY hk149 _ _ _ _ _ _ _ _ _ _ _ _ hf hw (lv_sub hl [0, 1, 2, 3, 4, 5, 6, 7] rfl)
set_option maxHeartbeats 4000000 in
set_option maxRecDepth 20000 in
theorem wX11_throwLight_275 (C : ea_C p s m args meth cd cX11_throwLight 13 none RX11) (hY : ea_Y ids) {k149 : Int32 → Int32 → Int32 → Int32 → Int32 → Int32 → eM → Option (eM)} (hk149 : ∀ (x2 : Int32) (x3 : Int32) (x6 : Int32) (x7 : Int32) (x8 : Int32) (x9 : Int32) (M : eM) (H : Heap) (locs : List Loc) (ls : Array Slot), k149 x2 x3 x6 x7 x8 x9 M = some res → ea_w E ids M s H locs → lv_has ls 13 [(0, .ref (E.1 100)), (2, .int x2), (3, .int x3), (6, .int x6), (7, .int x7), (8, .int x8), (9, .int x9)] → W p l e (ea_rm 6 143) s m args below meth cd H locs 0 0 (MQ below (ea_Qv E ids res) args s 0 0 (ea_Ad E ids)) (F0 m 149 ls [])) : ∀ (x2 : Int32) (x3 : Int32) (x6 : Int32) (x7 : Int32) (x8 : Int32) (x9 : Int32) (x10 : Int32) (M : eM) (H : Heap) (locs : List Loc) (ls : Array Slot), fX11_throwLight_275 k149 x2 x3 x6 x7 x8 x9 x10 M = some res → ea_w E ids M s H locs → lv_has ls 13 [(0, .ref (E.1 100)), (2, .int x2), (3, .int x3), (6, .int x6), (7, .int x7), (8, .int x8), (9, .int x9), (10, .int x10)] → W p l e (ea_rm 6 143) s m args below meth cd H locs 0 0 (MQ below (ea_Qv E ids res) args s 0 0 (ea_Ad E ids)) (F0 m 275 ls []) := by
  intro x2 x3 x6 x7 x8 x9 x10 M H locs ls hf  hw hl
  replace hf := (fX11_throwLight_275.eq_1 ..).symm.trans hf
  refine lv_iconst (v := 0) C.1 C.2.1 dX11_throwLight_275 (by decide) ?_
  exact wX11_throwLight_276 C hY hk149 _ _ _ _ _ _ _ _ _ _ _ _ hf hw (lv_sub hl [0, 1, 2, 3, 4, 5, 6, 7] rfl)
set_option maxHeartbeats 4000000 in
set_option maxRecDepth 20000 in
theorem wX11_throwLight_220 (C : ea_C p s m args meth cd cX11_throwLight 13 none RX11) (hY : ea_Y ids) {k149 : Int32 → Int32 → Int32 → Int32 → Int32 → Int32 → eM → Option (eM)} (hk149 : ∀ (x2 : Int32) (x3 : Int32) (x6 : Int32) (x7 : Int32) (x8 : Int32) (x9 : Int32) (M : eM) (H : Heap) (locs : List Loc) (ls : Array Slot), k149 x2 x3 x6 x7 x8 x9 M = some res → ea_w E ids M s H locs → lv_has ls 13 [(0, .ref (E.1 100)), (2, .int x2), (3, .int x3), (6, .int x6), (7, .int x7), (8, .int x8), (9, .int x9)] → W p l e (ea_rm 6 143) s m args below meth cd H locs 0 0 (MQ below (ea_Qv E ids res) args s 0 0 (ea_Ad E ids)) (F0 m 149 ls [])) : ∀ (x2 : Int32) (x3 : Int32) (x6 : Int32) (x7 : Int32) (x8 : Int32) (x9 : Int32) (x10 : Int32) (M : eM) (H : Heap) (locs : List Loc) (ls : Array Slot), fX11_throwLight_220 k149 x2 x3 x6 x7 x8 x9 x10 M = some res → ea_w E ids M s H locs → lv_has ls 13 [(0, .ref (E.1 100)), (2, .int x2), (3, .int x3), (6, .int x6), (7, .int x7), (8, .int x8), (9, .int x9), (10, .int x10)] → W p l e (ea_rm 6 143) s m args below meth cd H locs 0 0 (MQ below (ea_Qv E ids res) args s 0 0 (ea_Ad E ids)) (F0 m 220 ls []) := by
  intro x2 x3 x6 x7 x8 x9 x10 M H locs ls hf  hw hl
  replace hf := (fX11_throwLight_220.eq_1 ..).symm.trans hf
  refine lv_iload C.1 C.2.1 dX11_throwLight_220 (lv_at hl 6 rfl) ?_
  refine lv_iconst (v := (-1 : Int32)) C.1 C.2.1 dX11_throwLight_222 (by decide) ?_
  refine lv_icmp_eq (tgt := 271) C.1 C.2.1 dX11_throwLight_223 (by decide) (fun hc1 => ?_) (fun hc1 => ?_)
  · replace hf := ea_if_t hc1 hf
    exact wX11_throwLight_271 C hY hk149 _ _ _ _ _ _ _ _ _ _ _ hf hw (lv_sub hl [0, 1, 2, 3, 4, 5, 6, 7] rfl)
  · replace hf := ea_if_f hc1 hf
    refine lv_iload C.1 C.2.1 dX11_throwLight_226 (lv_at hl 7 rfl) ?_
    refine lv_iload C.1 C.2.1 dX11_throwLight_228 (lv_at hl 6 rfl) ?_
    refine lv_icmp_lt (tgt := 271) C.1 C.2.1 dX11_throwLight_230 (by decide) (fun hc2 => ?_) (fun hc2 => ?_)
    · replace hf := ea_if_t hc2 hf
      exact wX11_throwLight_271 C hY hk149 _ _ _ _ _ _ _ _ _ _ _ hf hw (lv_sub hl [0, 1, 2, 3, 4, 5, 6, 7] rfl)
    · replace hf := ea_if_f hc2 hf
      refine lv_iload C.1 C.2.1 dX11_throwLight_233 (lv_at hl 7 rfl) ?_
      refine lv_iload C.1 C.2.1 dX11_throwLight_235 (lv_at hl 6 rfl) ?_
      refine lv_icmp_ne (tgt := 275) C.1 C.2.1 dX11_throwLight_237 (by decide) (fun hc3 => ?_) (fun hc3 => ?_)
      · replace hf := ea_if_f hc3 hf
        exact wX11_throwLight_275 C hY hk149 _ _ _ _ _ _ _ _ _ _ _ hf hw (lv_sub hl [0, 1, 2, 3, 4, 5, 6, 7] rfl)
      · replace hf := ea_if_t hc3 hf
        refine lv_aload_n C.1 C.2.1 dX11_throwLight_240 rfl (lv_at hl 0 rfl) ?_
        refine gf_X11_101 C hw (hY 100 11 rfl) dX11_throwLight_241 ?_
        refine W.eq (g2 := F0 m 244 ls [.ref (E.1 129)]) rfl ?_
        refine lv_iconst (v := 0) C.1 C.2.1 dX11_throwLight_244 (by decide) ?_
        refine ea_iald C hw (show ea_ok ids 129 20 from ok_11_45 (hY 100 11 rfl)) (by decide) dX11_throwLight_245 ?_
        refine lv_aload_n C.1 C.2.1 dX11_throwLight_246 rfl (lv_at hl 0 rfl) ?_
        refine gf_X11_101 C hw (hY 100 11 rfl) dX11_throwLight_247 ?_
        refine W.eq (g2 := F0 m 250 ls [.ref (E.1 129), .int (M.1 129 (0 : Int32).toNatClampNeg)]) rfl ?_
        refine lv_iconst (v := 1) C.1 C.2.1 dX11_throwLight_250 (by decide) ?_
        refine ea_iald C hw (show ea_ok ids 129 20 from ok_11_45 (hY 100 11 rfl)) (by decide) dX11_throwLight_251 ?_
        refine lv_iadd C.1 C.2.1 dX11_throwLight_252 ?_
        refine lv_aload_n C.1 C.2.1 dX11_throwLight_253 rfl (lv_at hl 0 rfl) ?_
        refine gf_X11_101 C hw (hY 100 11 rfl) dX11_throwLight_254 ?_
        refine W.eq (g2 := F0 m 257 ls [.ref (E.1 129), .int ((M.1 129 (0 : Int32).toNatClampNeg) + (M.1 129 (1 : Int32).toNatClampNeg))]) rfl ?_
        refine lv_iconst (v := 2) C.1 C.2.1 dX11_throwLight_257 (by decide) ?_
        refine ea_iald C hw (show ea_ok ids 129 20 from ok_11_45 (hY 100 11 rfl)) (by decide) dX11_throwLight_258 ?_
        refine lv_iadd C.1 C.2.1 dX11_throwLight_259 ?_
        refine lv_iload C.1 C.2.1 dX11_throwLight_260 (lv_at hl 3 rfl) ?_
        refine lv_iload C.1 C.2.1 dX11_throwLight_262 (lv_at hl 4 rfl) ?_
        refine lv_iadd C.1 C.2.1 dX11_throwLight_264 ?_
        refine lv_iload C.1 C.2.1 dX11_throwLight_265 (lv_at hl 5 rfl) ?_
        refine lv_iadd C.1 C.2.1 dX11_throwLight_267 ?_
        refine lv_icmp_ge (tgt := 275) C.1 C.2.1 dX11_throwLight_268 (by decide) (fun hc4 => ?_) (fun hc4 => ?_)
        · replace hf := ea_if_t hc4 hf
          exact wX11_throwLight_275 C hY hk149 _ _ _ _ _ _ _ _ _ _ _ hf hw (lv_sub hl [0, 1, 2, 3, 4, 5, 6, 7] rfl)
        · replace hf := ea_if_f hc4 hf
          exact wX11_throwLight_271 C hY hk149 _ _ _ _ _ _ _ _ _ _ _ hf hw (lv_sub hl [0, 1, 2, 3, 4, 5, 6, 7] rfl)
set_option maxHeartbeats 4000000 in
set_option maxRecDepth 20000 in
theorem wX11_throwLight_149 (C : ea_C p s m args meth cd cX11_throwLight 13 none RX11) (hY : ea_Y ids) {k328 : Int32 → Int32 → Int32 → Int32 → Int32 → Int32 → eM → Option (eM)} (hk328 : ∀ (x2 : Int32) (x3 : Int32) (x6 : Int32) (x7 : Int32) (x8 : Int32) (x9 : Int32) (M : eM) (H : Heap) (locs : List Loc) (ls : Array Slot), k328 x2 x3 x6 x7 x8 x9 M = some res → ea_w E ids M s H locs → lv_has ls 13 [(0, .ref (E.1 100)), (2, .int x2), (3, .int x3), (6, .int x6), (7, .int x7), (8, .int x8), (9, .int x9)] → W p l e (ea_rm 6 143) s m args below meth cd H locs 0 0 (MQ below (ea_Qv E ids res) args s 0 0 (ea_Ad E ids)) (F0 m 328 ls [])) : ∀ (n : Nat) (x2 : Int32) (x3 : Int32) (x6 : Int32) (x7 : Int32) (x8 : Int32) (x9 : Int32) (M : eM) (H : Heap) (locs : List Loc) (ls : Array Slot), fX11_throwLight_149 k328 n x2 x3 x6 x7 x8 x9 M = some res → ea_w E ids M s H locs → lv_has ls 13 [(0, .ref (E.1 100)), (2, .int x2), (3, .int x3), (6, .int x6), (7, .int x7), (8, .int x8), (9, .int x9)] → W p l e (ea_rm 6 143) s m args below meth cd H locs 0 0 (MQ below (ea_Qv E ids res) args s 0 0 (ea_Ad E ids)) (F0 m 149 ls []) := by
  intro n
  induction n with
  | zero => intro x2 x3 x6 x7 x8 x9 M H locs ls hf; cases hf
  | succ n ih =>
    intro x2 x3 x6 x7 x8 x9 M H locs ls hf  hw hl
    replace hf := (fX11_throwLight_149.eq_2 ..).symm.trans hf
    refine lv_aload_n C.1 C.2.1 dX11_throwLight_149 rfl (lv_at hl 0 rfl) ?_
    refine gf_X11_101 C hw (hY 100 11 rfl) dX11_throwLight_150 ?_
    refine W.eq (g2 := F0 m 153 ls [.ref (E.1 129)]) rfl ?_
    refine lv_iconst (v := 2) C.1 C.2.1 dX11_throwLight_153 (by decide) ?_
    refine ea_iald C hw (show ea_ok ids 129 20 from ok_11_45 (hY 100 11 rfl)) (by decide) dX11_throwLight_154 ?_
    refine lv_aload_n C.1 C.2.1 dX11_throwLight_155 rfl (lv_at hl 0 rfl) ?_
    refine gf_X11_17 C hw (hY 100 11 rfl) dX11_throwLight_156 ?_
    refine W.eq (g2 := F0 m 159 ls [.ref (E.1 102), .int (M.1 129 (2 : Int32).toNatClampNeg)]) rfl ?_
    refine lv_bipush (v := 10) C.1 C.2.1 dX11_throwLight_159 (by decide) ?_
    refine ea_iald C hw (show ea_ok ids 102 20 from ok_11_12 (hY 100 11 rfl)) (by decide) dX11_throwLight_161 ?_
    refine lv_icmp_gt (tgt := 328) C.1 C.2.1 dX11_throwLight_162 (by decide) (fun hc1 => ?_) (fun hc1 => ?_)
    · replace hf := ea_if_t hc1 hf
      exact hk328 _ _ _ _ _ _ _ _ _ _ hf hw (lv_sub hl [0, 1, 2, 3, 4, 5, 6] rfl)
    · replace hf := ea_if_f hc1 hf
      refine lv_iconst (v := 0) C.1 C.2.1 dX11_throwLight_165 (by decide) ?_
      refine lv_istore (lv' := [(10, .int (0 : Int32)), (0, .ref (E.1 100)), (2, .int x2), (3, .int x3), (6, .int x6), (7, .int x7), (8, .int x8), (9, .int x9)]) C.1 C.2.1 dX11_throwLight_166 hl (by decide) rfl (fun ls hl => ?_)
      refine lv_iconst (v := 0) C.1 C.2.1 dX11_throwLight_168 (by decide) ?_
      refine lv_istore (lv' := [(11, .int (0 : Int32)), (10, .int (0 : Int32)), (0, .ref (E.1 100)), (2, .int x2), (3, .int x3), (6, .int x6), (7, .int x7), (8, .int x8), (9, .int x9)]) C.1 C.2.1 dX11_throwLight_169 hl (by decide) rfl (fun ls hl => ?_)
      exact wX11_throwLight_171 C hY (wX11_throwLight_220 C hY ih) ea_N _ _ _ _ _ _ _ _ _ _ _ _ hf hw (lv_sub hl [2, 3, 4, 5, 6, 7, 8, 1, 0] rfl)
set_option maxHeartbeats 4000000 in
set_option maxRecDepth 20000 in
theorem wX11_throwLight_328 (C : ea_C p s m args meth cd cX11_throwLight 13 none RX11) (hY : ea_Y ids) {k126 : Int32 → Int32 → Int32 → Int32 → Int32 → Int32 → eM → Option (eM)} (hk126 : ∀ (x2 : Int32) (x3 : Int32) (x6 : Int32) (x7 : Int32) (x8 : Int32) (x9 : Int32) (M : eM) (H : Heap) (locs : List Loc) (ls : Array Slot), k126 x2 x3 x6 x7 x8 x9 M = some res → ea_w E ids M s H locs → lv_has ls 13 [(0, .ref (E.1 100)), (2, .int x2), (3, .int x3), (6, .int x6), (7, .int x7), (8, .int x8), (9, .int x9)] → W p l e (ea_rm 6 143) s m args below meth cd H locs 0 0 (MQ below (ea_Qv E ids res) args s 0 0 (ea_Ad E ids)) (F0 m 126 ls [])) : ∀ (x2 : Int32) (x3 : Int32) (x6 : Int32) (x7 : Int32) (x8 : Int32) (x9 : Int32) (M : eM) (H : Heap) (locs : List Loc) (ls : Array Slot), fX11_throwLight_328 k126 x2 x3 x6 x7 x8 x9 M = some res → ea_w E ids M s H locs → lv_has ls 13 [(0, .ref (E.1 100)), (2, .int x2), (3, .int x3), (6, .int x6), (7, .int x7), (8, .int x8), (9, .int x9)] → W p l e (ea_rm 6 143) s m args below meth cd H locs 0 0 (MQ below (ea_Qv E ids res) args s 0 0 (ea_Ad E ids)) (F0 m 328 ls []) := by
  intro x2 x3 x6 x7 x8 x9 M H locs ls hf  hw hl
  replace hf := (fX11_throwLight_328.eq_1 ..).symm.trans hf
  refine lv_aload_n C.1 C.2.1 dX11_throwLight_328 rfl (lv_at hl 0 rfl) ?_
  refine gf_X11_101 C hw (hY 100 11 rfl) dX11_throwLight_329 ?_
  refine W.eq (g2 := F0 m 332 ls [.ref (E.1 129)]) rfl ?_
  refine lv_iconst (v := 1) C.1 C.2.1 dX11_throwLight_332 (by decide) ?_
  refine lv_dup2_11 C.1 C.2.1 dX11_throwLight_333 rfl rfl ?_
  refine ea_iald C hw (show ea_ok ids 129 20 from ok_11_45 (hY 100 11 rfl)) (by decide) dX11_throwLight_334 ?_
  refine lv_bipush (v := 10) C.1 C.2.1 dX11_throwLight_335 (by decide) ?_
  refine lv_iadd C.1 C.2.1 dX11_throwLight_337 ?_
  refine ea_iast C hw (show ea_ok ids 129 20 from ok_11_45 (hY 100 11 rfl)) (by decide) dX11_throwLight_338 (fun H locs hw => ?_)
  refine lv_goto (tgt := 126) C.1 C.2.1 dX11_throwLight_339 (by decide) ?_
  exact hk126 _ _ _ _ _ _ _ _ _ _ hf hw (lv_sub hl [0, 1, 2, 3, 4, 5, 6] rfl)
set_option maxHeartbeats 4000000 in
set_option maxRecDepth 20000 in
theorem wX11_throwLight_126 (C : ea_C p s m args meth cd cX11_throwLight 13 none RX11) (hY : ea_Y ids) {k342 : Int32 → Int32 → Int32 → Int32 → Int32 → Int32 → eM → Option (eM)} (hk342 : ∀ (x2 : Int32) (x3 : Int32) (x6 : Int32) (x7 : Int32) (x8 : Int32) (x9 : Int32) (M : eM) (H : Heap) (locs : List Loc) (ls : Array Slot), k342 x2 x3 x6 x7 x8 x9 M = some res → ea_w E ids M s H locs → lv_has ls 13 [(0, .ref (E.1 100)), (2, .int x2), (3, .int x3), (6, .int x6), (7, .int x7), (8, .int x8), (9, .int x9)] → W p l e (ea_rm 6 143) s m args below meth cd H locs 0 0 (MQ below (ea_Qv E ids res) args s 0 0 (ea_Ad E ids)) (F0 m 342 ls [])) : ∀ (n : Nat) (x2 : Int32) (x3 : Int32) (x6 : Int32) (x7 : Int32) (x8 : Int32) (x9 : Int32) (M : eM) (H : Heap) (locs : List Loc) (ls : Array Slot), fX11_throwLight_126 k342 n x2 x3 x6 x7 x8 x9 M = some res → ea_w E ids M s H locs → lv_has ls 13 [(0, .ref (E.1 100)), (2, .int x2), (3, .int x3), (6, .int x6), (7, .int x7), (8, .int x8), (9, .int x9)] → W p l e (ea_rm 6 143) s m args below meth cd H locs 0 0 (MQ below (ea_Qv E ids res) args s 0 0 (ea_Ad E ids)) (F0 m 126 ls []) := by
  intro n
  induction n with
  | zero => intro x2 x3 x6 x7 x8 x9 M H locs ls hf; cases hf
  | succ n ih =>
    intro x2 x3 x6 x7 x8 x9 M H locs ls hf  hw hl
    replace hf := (fX11_throwLight_126.eq_2 ..).symm.trans hf
    refine lv_aload_n C.1 C.2.1 dX11_throwLight_126 rfl (lv_at hl 0 rfl) ?_
    refine gf_X11_101 C hw (hY 100 11 rfl) dX11_throwLight_127 ?_
    refine W.eq (g2 := F0 m 130 ls [.ref (E.1 129)]) rfl ?_
    refine lv_iconst (v := 1) C.1 C.2.1 dX11_throwLight_130 (by decide) ?_
    refine ea_iald C hw (show ea_ok ids 129 20 from ok_11_45 (hY 100 11 rfl)) (by decide) dX11_throwLight_131 ?_
    refine lv_aload_n C.1 C.2.1 dX11_throwLight_132 rfl (lv_at hl 0 rfl) ?_
    refine gf_X11_17 C hw (hY 100 11 rfl) dX11_throwLight_133 ?_
    refine W.eq (g2 := F0 m 136 ls [.ref (E.1 102), .int (M.1 129 (1 : Int32).toNatClampNeg)]) rfl ?_
    refine lv_bipush (v := 9) C.1 C.2.1 dX11_throwLight_136 (by decide) ?_
    refine ea_iald C hw (show ea_ok ids 102 20 from ok_11_12 (hY 100 11 rfl)) (by decide) dX11_throwLight_138 ?_
    refine lv_icmp_gt (tgt := 342) C.1 C.2.1 dX11_throwLight_139 (by decide) (fun hc1 => ?_) (fun hc1 => ?_)
    · replace hf := ea_if_t hc1 hf
      exact hk342 _ _ _ _ _ _ _ _ _ _ hf hw (lv_sub hl [0, 1, 2, 3, 4, 5, 6] rfl)
    · replace hf := ea_if_f hc1 hf
      refine lv_aload_n C.1 C.2.1 dX11_throwLight_142 rfl (lv_at hl 0 rfl) ?_
      refine gf_X11_101 C hw (hY 100 11 rfl) dX11_throwLight_143 ?_
      refine W.eq (g2 := F0 m 146 ls [.ref (E.1 129)]) rfl ?_
      refine lv_iconst (v := 2) C.1 C.2.1 dX11_throwLight_146 (by decide) ?_
      refine lv_iconst (v := 0) C.1 C.2.1 dX11_throwLight_147 (by decide) ?_
      refine ea_iast C hw (show ea_ok ids 129 20 from ok_11_45 (hY 100 11 rfl)) (by decide) dX11_throwLight_148 (fun H locs hw => ?_)
      exact wX11_throwLight_149 C hY (wX11_throwLight_328 C hY ih) ea_N _ _ _ _ _ _ _ _ _ _ hf hw (lv_sub hl [0, 1, 2, 3, 4, 5, 6] rfl)
set_option maxHeartbeats 4000000 in
set_option maxRecDepth 20000 in
theorem wX11_throwLight_342 (C : ea_C p s m args meth cd cX11_throwLight 13 none RX11) (hY : ea_Y ids) {k103 : Int32 → Int32 → Int32 → Int32 → Int32 → Int32 → eM → Option (eM)} (hk103 : ∀ (x2 : Int32) (x3 : Int32) (x6 : Int32) (x7 : Int32) (x8 : Int32) (x9 : Int32) (M : eM) (H : Heap) (locs : List Loc) (ls : Array Slot), k103 x2 x3 x6 x7 x8 x9 M = some res → ea_w E ids M s H locs → lv_has ls 13 [(0, .ref (E.1 100)), (2, .int x2), (3, .int x3), (6, .int x6), (7, .int x7), (8, .int x8), (9, .int x9)] → W p l e (ea_rm 6 143) s m args below meth cd H locs 0 0 (MQ below (ea_Qv E ids res) args s 0 0 (ea_Ad E ids)) (F0 m 103 ls [])) : ∀ (x2 : Int32) (x3 : Int32) (x6 : Int32) (x7 : Int32) (x8 : Int32) (x9 : Int32) (M : eM) (H : Heap) (locs : List Loc) (ls : Array Slot), fX11_throwLight_342 k103 x2 x3 x6 x7 x8 x9 M = some res → ea_w E ids M s H locs → lv_has ls 13 [(0, .ref (E.1 100)), (2, .int x2), (3, .int x3), (6, .int x6), (7, .int x7), (8, .int x8), (9, .int x9)] → W p l e (ea_rm 6 143) s m args below meth cd H locs 0 0 (MQ below (ea_Qv E ids res) args s 0 0 (ea_Ad E ids)) (F0 m 342 ls []) := by
  intro x2 x3 x6 x7 x8 x9 M H locs ls hf  hw hl
  replace hf := (fX11_throwLight_342.eq_1 ..).symm.trans hf
  refine lv_aload_n C.1 C.2.1 dX11_throwLight_342 rfl (lv_at hl 0 rfl) ?_
  refine gf_X11_101 C hw (hY 100 11 rfl) dX11_throwLight_343 ?_
  refine W.eq (g2 := F0 m 346 ls [.ref (E.1 129)]) rfl ?_
  refine lv_iconst (v := 0) C.1 C.2.1 dX11_throwLight_346 (by decide) ?_
  refine lv_dup2_11 C.1 C.2.1 dX11_throwLight_347 rfl rfl ?_
  refine ea_iald C hw (show ea_ok ids 129 20 from ok_11_45 (hY 100 11 rfl)) (by decide) dX11_throwLight_348 ?_
  refine lv_bipush (v := 10) C.1 C.2.1 dX11_throwLight_349 (by decide) ?_
  refine lv_iadd C.1 C.2.1 dX11_throwLight_351 ?_
  refine ea_iast C hw (show ea_ok ids 129 20 from ok_11_45 (hY 100 11 rfl)) (by decide) dX11_throwLight_352 (fun H locs hw => ?_)
  refine lv_goto (tgt := 103) C.1 C.2.1 dX11_throwLight_353 (by decide) ?_
  exact hk103 _ _ _ _ _ _ _ _ _ _ hf hw (lv_sub hl [0, 1, 2, 3, 4, 5, 6] rfl)
set_option maxHeartbeats 4000000 in
set_option maxRecDepth 20000 in
theorem wX11_throwLight_103 (C : ea_C p s m args meth cd cX11_throwLight 13 none RX11) (hY : ea_Y ids) {k356 : Int32 → Int32 → Int32 → Int32 → eM → Option (eM)} (hk356 : ∀ (x6 : Int32) (x7 : Int32) (x8 : Int32) (x9 : Int32) (M : eM) (H : Heap) (locs : List Loc) (ls : Array Slot), k356 x6 x7 x8 x9 M = some res → ea_w E ids M s H locs → lv_has ls 13 [(0, .ref (E.1 100)), (6, .int x6), (7, .int x7), (8, .int x8), (9, .int x9)] → W p l e (ea_rm 6 143) s m args below meth cd H locs 0 0 (MQ below (ea_Qv E ids res) args s 0 0 (ea_Ad E ids)) (F0 m 356 ls [])) : ∀ (n : Nat) (x2 : Int32) (x3 : Int32) (x6 : Int32) (x7 : Int32) (x8 : Int32) (x9 : Int32) (M : eM) (H : Heap) (locs : List Loc) (ls : Array Slot), fX11_throwLight_103 k356 n x2 x3 x6 x7 x8 x9 M = some res → ea_w E ids M s H locs → lv_has ls 13 [(0, .ref (E.1 100)), (2, .int x2), (3, .int x3), (6, .int x6), (7, .int x7), (8, .int x8), (9, .int x9)] → W p l e (ea_rm 6 143) s m args below meth cd H locs 0 0 (MQ below (ea_Qv E ids res) args s 0 0 (ea_Ad E ids)) (F0 m 103 ls []) := by
  intro n
  induction n with
  | zero => intro x2 x3 x6 x7 x8 x9 M H locs ls hf; cases hf
  | succ n ih =>
    intro x2 x3 x6 x7 x8 x9 M H locs ls hf  hw hl
    replace hf := (fX11_throwLight_103.eq_2 ..).symm.trans hf
    refine lv_aload_n C.1 C.2.1 dX11_throwLight_103 rfl (lv_at hl 0 rfl) ?_
    refine gf_X11_101 C hw (hY 100 11 rfl) dX11_throwLight_104 ?_
    refine W.eq (g2 := F0 m 107 ls [.ref (E.1 129)]) rfl ?_
    refine lv_iconst (v := 0) C.1 C.2.1 dX11_throwLight_107 (by decide) ?_
    refine ea_iald C hw (show ea_ok ids 129 20 from ok_11_45 (hY 100 11 rfl)) (by decide) dX11_throwLight_108 ?_
    refine lv_aload_n C.1 C.2.1 dX11_throwLight_109 rfl (lv_at hl 0 rfl) ?_
    refine gf_X11_17 C hw (hY 100 11 rfl) dX11_throwLight_110 ?_
    refine W.eq (g2 := F0 m 113 ls [.ref (E.1 102), .int (M.1 129 (0 : Int32).toNatClampNeg)]) rfl ?_
    refine lv_bipush (v := 8) C.1 C.2.1 dX11_throwLight_113 (by decide) ?_
    refine ea_iald C hw (show ea_ok ids 102 20 from ok_11_12 (hY 100 11 rfl)) (by decide) dX11_throwLight_115 ?_
    refine lv_icmp_gt (tgt := 356) C.1 C.2.1 dX11_throwLight_116 (by decide) (fun hc1 => ?_) (fun hc1 => ?_)
    · replace hf := ea_if_t hc1 hf
      exact hk356 _ _ _ _ _ _ _ _ hf hw (lv_sub hl [0, 3, 4, 5, 6] rfl)
    · replace hf := ea_if_f hc1 hf
      refine lv_aload_n C.1 C.2.1 dX11_throwLight_119 rfl (lv_at hl 0 rfl) ?_
      refine gf_X11_101 C hw (hY 100 11 rfl) dX11_throwLight_120 ?_
      refine W.eq (g2 := F0 m 123 ls [.ref (E.1 129)]) rfl ?_
      refine lv_iconst (v := 1) C.1 C.2.1 dX11_throwLight_123 (by decide) ?_
      refine lv_iconst (v := 0) C.1 C.2.1 dX11_throwLight_124 (by decide) ?_
      refine ea_iast C hw (show ea_ok ids 129 20 from ok_11_45 (hY 100 11 rfl)) (by decide) dX11_throwLight_125 (fun H locs hw => ?_)
      exact wX11_throwLight_126 C hY (wX11_throwLight_342 C hY ih) ea_N _ _ _ _ _ _ _ _ _ _ hf hw (lv_sub hl [0, 1, 2, 3, 4, 5, 6] rfl)
set_option maxHeartbeats 4000000 in
set_option maxRecDepth 20000 in
theorem wX11_throwLight_356 (C : ea_C p s m args meth cd cX11_throwLight 13 none RX11) (hY : ea_Y ids) : ∀ (x6 : Int32) (x7 : Int32) (x8 : Int32) (x9 : Int32) (M : eM) (H : Heap) (locs : List Loc) (ls : Array Slot), fX11_throwLight_356 x6 x7 x8 x9 M = some res → ea_w E ids M s H locs → lv_has ls 13 [(0, .ref (E.1 100)), (6, .int x6), (7, .int x7), (8, .int x8), (9, .int x9)] → W p l e (ea_rm 6 143) s m args below meth cd H locs 0 0 (MQ below (ea_Qv E ids res) args s 0 0 (ea_Ad E ids)) (F0 m 356 ls []) := by
  intro x6 x7 x8 x9 M H locs ls hf  hw hl
  replace hf := (fX11_throwLight_356.eq_1 ..).symm.trans hf
  refine lv_aload_n C.1 C.2.1 dX11_throwLight_356 rfl (lv_at hl 0 rfl) ?_
  refine gf_X11_101 C hw (hY 100 11 rfl) dX11_throwLight_357 ?_
  refine W.eq (g2 := F0 m 360 ls [.ref (E.1 129)]) rfl ?_
  refine lv_iconst (v := 0) C.1 C.2.1 dX11_throwLight_360 (by decide) ?_
  refine lv_iload C.1 C.2.1 dX11_throwLight_361 (lv_at hl 1 rfl) ?_
  refine ea_iast C hw (show ea_ok ids 129 20 from ok_11_45 (hY 100 11 rfl)) (by decide) dX11_throwLight_363 (fun H locs hw => ?_)
  refine lv_aload_n C.1 C.2.1 dX11_throwLight_364 rfl (lv_at hl 0 rfl) ?_
  refine gf_X11_101 C hw (hY 100 11 rfl) dX11_throwLight_365 ?_
  refine W.eq (g2 := F0 m 368 ls [.ref (E.1 129)]) rfl ?_
  refine lv_iconst (v := 1) C.1 C.2.1 dX11_throwLight_368 (by decide) ?_
  refine lv_iload C.1 C.2.1 dX11_throwLight_369 (lv_at hl 2 rfl) ?_
  refine ea_iast C hw (show ea_ok ids 129 20 from ok_11_45 (hY 100 11 rfl)) (by decide) dX11_throwLight_371 (fun H locs hw => ?_)
  refine lv_aload_n C.1 C.2.1 dX11_throwLight_372 rfl (lv_at hl 0 rfl) ?_
  refine gf_X11_101 C hw (hY 100 11 rfl) dX11_throwLight_373 ?_
  refine W.eq (g2 := F0 m 376 ls [.ref (E.1 129)]) rfl ?_
  refine lv_iconst (v := 2) C.1 C.2.1 dX11_throwLight_376 (by decide) ?_
  refine lv_iload C.1 C.2.1 dX11_throwLight_377 (lv_at hl 3 rfl) ?_
  refine ea_iast C hw (show ea_ok ids 129 20 from ok_11_45 (hY 100 11 rfl)) (by decide) dX11_throwLight_379 (fun H locs hw => ?_)
  refine lv_aload_n C.1 C.2.1 dX11_throwLight_380 rfl (lv_at hl 0 rfl) ?_
  refine lv_iload C.1 C.2.1 dX11_throwLight_381 (lv_at hl 4 rfl) ?_
  refine pu_X11_342 C hw (hY 100 11 rfl) dX11_throwLight_383 (fun H locs hw => ?_)
  exact ea_vret C hw hf dX11_throwLight_386
set_option maxHeartbeats 4000000 in
set_option maxRecDepth 20000 in
theorem wX11_throwLight_84 (C : ea_C p s m args meth cd cX11_throwLight 13 none RX11) (hY : ea_Y ids) : ∀ (x2 : Int32) (x3 : Int32) (M : eM) (H : Heap) (locs : List Loc) (ls : Array Slot), fX11_throwLight_84 x2 x3 M = some res → ea_w E ids M s H locs → lv_has ls 13 [(0, .ref (E.1 100)), (2, .int x2), (3, .int x3)] → W p l e (ea_rm 6 143) s m args below meth cd H locs 0 0 (MQ below (ea_Qv E ids res) args s 0 0 (ea_Ad E ids)) (F0 m 84 ls []) := by
  intro x2 x3 M H locs ls hf  hw hl
  replace hf := (fX11_throwLight_84.eq_1 ..).symm.trans hf
  refine lv_iconst (v := 0) C.1 C.2.1 dX11_throwLight_84 (by decide) ?_
  refine lv_istore (lv' := [(6, .int (0 : Int32)), (0, .ref (E.1 100)), (2, .int x2), (3, .int x3)]) C.1 C.2.1 dX11_throwLight_85 hl (by decide) rfl (fun ls hl => ?_)
  refine lv_iconst (v := 0) C.1 C.2.1 dX11_throwLight_87 (by decide) ?_
  refine lv_istore (lv' := [(7, .int (0 : Int32)), (6, .int (0 : Int32)), (0, .ref (E.1 100)), (2, .int x2), (3, .int x3)]) C.1 C.2.1 dX11_throwLight_88 hl (by decide) rfl (fun ls hl => ?_)
  refine lv_iconst (v := 0) C.1 C.2.1 dX11_throwLight_90 (by decide) ?_
  refine lv_istore (lv' := [(8, .int (0 : Int32)), (7, .int (0 : Int32)), (6, .int (0 : Int32)), (0, .ref (E.1 100)), (2, .int x2), (3, .int x3)]) C.1 C.2.1 dX11_throwLight_91 hl (by decide) rfl (fun ls hl => ?_)
  refine lv_iconst (v := (-1 : Int32)) C.1 C.2.1 dX11_throwLight_93 (by decide) ?_
  refine lv_istore (lv' := [(9, .int (-1 : Int32)), (8, .int (0 : Int32)), (7, .int (0 : Int32)), (6, .int (0 : Int32)), (0, .ref (E.1 100)), (2, .int x2), (3, .int x3)]) C.1 C.2.1 dX11_throwLight_94 hl (by decide) rfl (fun ls hl => ?_)
  refine lv_aload_n C.1 C.2.1 dX11_throwLight_96 rfl (lv_at hl 4 rfl) ?_
  refine gf_X11_101 C hw (hY 100 11 rfl) dX11_throwLight_97 ?_
  refine W.eq (g2 := F0 m 100 ls [.ref (E.1 129)]) rfl ?_
  refine lv_iconst (v := 0) C.1 C.2.1 dX11_throwLight_100 (by decide) ?_
  refine lv_iconst (v := 0) C.1 C.2.1 dX11_throwLight_101 (by decide) ?_
  refine ea_iast C hw (show ea_ok ids 129 20 from ok_11_45 (hY 100 11 rfl)) (by decide) dX11_throwLight_102 (fun H locs hw => ?_)
  exact wX11_throwLight_103 C hY (wX11_throwLight_356 C hY) ea_N _ _ _ _ _ _ _ _ _ _ hf hw (lv_sub hl [4, 5, 6, 3, 2, 1, 0] rfl)
set_option maxHeartbeats 4000000 in
set_option maxRecDepth 20000 in
theorem wX11_throwLight_0 (C : ea_C p s m args meth cd cX11_throwLight 13 none RX11) (hY : ea_Y ids) : ∀ (x1 : Int32) (x2 : Int32) (x3 : Int32) (x4 : Int32) (x5 : Int32) (M : eM) (H : Heap) (locs : List Loc) (ls : Array Slot), fX11_throwLight_0 x1 x2 x3 x4 x5 M = some res → ea_w E ids M s H locs → lv_has ls 13 [(0, .ref (E.1 100)), (1, .int x1), (2, .int x2), (3, .int x3), (4, .int x4), (5, .int x5)] → W p l e (ea_rm 6 143) s m args below meth cd H locs 0 0 (MQ below (ea_Qv E ids res) args s 0 0 (ea_Ad E ids)) (F0 m 0 ls []) := by
  intro x1 x2 x3 x4 x5 M H locs ls hf  hw hl
  replace hf := (fX11_throwLight_0.eq_1 ..).symm.trans hf
  refine lv_aload_n C.1 C.2.1 dX11_throwLight_0 rfl (lv_at hl 0 rfl) ?_
  refine lv_iload_n C.1 C.2.1 dX11_throwLight_1 rfl (lv_at hl 1 rfl) ?_
  refine lv_iload C.1 C.2.1 dX11_throwLight_2 (lv_at hl 4 rfl) ?_
  refine lv_sipush (v := 999) C.1 C.2.1 dX11_throwLight_4 (by decide) ?_
  obtain ⟨M2, he1, hf⟩ := ea_cv_s hf
  refine ea_runv hw (cl_X11_313 C hw (hY 100 11 rfl) (As := [.int x1, .int x4, .int (999 : Int32)]) (rest := []) (mX11_findFits (l := l) (E := E) (ids := ids) hY he1) (by decide) rfl hl.1 rfl (Nat.le_of_ble_eq_true rfl) dX11_throwLight_7 ⟨Nat.le_refl _, Nat.le_refl _⟩) (fun H locs hw => ?_)
  refine lv_iconst (v := 0) C.1 C.2.1 dX11_throwLight_10 (by decide) ?_
  refine lv_istore (lv' := [(6, .int (0 : Int32)), (0, .ref (E.1 100)), (1, .int x1), (2, .int x2), (3, .int x3), (4, .int x4), (5, .int x5)]) C.1 C.2.1 dX11_throwLight_11 hl (by decide) rfl (fun ls hl => ?_)
  exact wX11_throwLight_13 C hY (wX11_throwLight_84 C hY) ea_N _ _ _ _ _ _ _ _ hf hw (lv_sub hl [1, 3, 4, 6, 0] rfl)
set_option maxHeartbeats 4000000 in
set_option maxRecDepth 20000 in
theorem mX11_throwLight {l : Launch} {E : eE} {ids : List Nat} (hY : ea_Y ids) {x1 : Int32} {x2 : Int32} {x3 : Int32} {x4 : Int32} {x5 : Int32} {M : eM} {res : eM} (hf : fX11_throwLight x1 x2 x3 x4 x5 M = some res) : ea_Mv l yX11_throwLight cX11_throwLight 13 6 143 E ids [.ref (E.1 100), .int x1, .int x2, .int x3, .int x4, .int x5] M res := by
  refine ea_gov (by decide) (Nat.le_of_ble_eq_true rfl) wc_X11_throwLight ?_
  intro p e s m below meth cd ls C hw hl
  exact wX11_throwLight_0 C hY _ _ _ _ _ _ _ _ _ hf hw hl
end SX11_throwLight

def fX11_cannot_99 (k44 : Int32 → Int32 → Int32 → Int32 → Int32 → Int32 → eM → Option (Int32 × eM)) (x1 : Int32) (x2 : Int32) (x3 : Int32) (x4 : Int32) (x5 : Int32) (x6 : Int32) (M : eM) : Option (Int32 × eM) := k44 x1 x2 x3 x4 x5 (x6 + (1 : Int32)) M
def fX11_cannot_96 (k44 : Int32 → Int32 → Int32 → Int32 → Int32 → Int32 → eM → Option (Int32 × eM)) (x1 : Int32) (x2 : Int32) (x3 : Int32) (x4 : Int32) (x6 : Int32) (t0 : Int32) (t1 : Int32) (M : eM) : Option (Int32 × eM) := fX11_cannot_99 k44 x1 x2 x3 x4 (t1 + t0) x6 M
def fX11_cannot_44 : Nat → Int32 → Int32 → Int32 → Int32 → Int32 → Int32 → eM → Option (Int32 × eM)
  | 0, _, _, _, _, _, _, _ => none
  | n + 1, x1, x2, x3, x4, x5, x6, M => ea_ci (fX11_cells M) (fun r2 M3 => if r2 ≤ x6 then (some (x5, M3)) else (ea_ci (fX11_frontOf x6 M3) (fun r6 M7 => if 0 ≤ r6 then (ea_cv (fX11_throwLight x6 r6 x1 x2 x3 M7) (fun M10 => if (M10.1 100 46) ≤ x4 then (fX11_cannot_96 (fX11_cannot_44 n) x1 x2 x3 x4 x6 (0 : Int32) x5 M10) else (fX11_cannot_96 (fX11_cannot_44 n) x1 x2 x3 x4 x6 (1 : Int32) x5 M10))) else (fX11_cannot_99 (fX11_cannot_44 n) x1 x2 x3 x4 x5 x6 M7))))
def fX11_cannot_0 (x1 : Int32) (x2 : Int32) (x3 : Int32) (x4 : Int32) (M : eM) : Option (Int32 × eM) := ea_ci (fX11_isEye x1 M) (fun r2 M3 => if r2 = 0 then (some ((-2 : Int32), M3)) else (ea_ci (fX11_isStory x2 M3) (fun r6 M7 => if r6 = 0 then (some ((-2 : Int32), M7)) else (ea_ci (fX11_isBound x3 M7) (fun r10 M11 => if r10 = 0 then (some ((-2 : Int32), M11)) else (ea_ci (fX11_in x4 (0 : Int32) (9999 : Int32) M11) (fun r14 M15 => if r14 = 0 then (some ((-2 : Int32), M15)) else (fX11_cannot_44 ea_N x1 x2 x3 x4 (0 : Int32) (0 : Int32) M15))))))))
def fX11_cannot (x1 : Int32) (x2 : Int32) (x3 : Int32) (x4 : Int32) (M : eM) : Option (Int32 × eM) := fX11_cannot_0 x1 x2 x3 x4 M
section SX11_cannot
variable {p : Program} {l : Launch} {e : Env} {s : State} {m : MethodId} {args : Array Value} {below : List Frame} {meth : Method} {cd : Code} {E : eE} {ids : List Nat} {res : Int32 × eM}
set_option maxHeartbeats 4000000 in
set_option maxRecDepth 20000 in
theorem wX11_cannot_99 (C : ea_C p s m args meth cd cX11_cannot 8 (some .int) RX11) (hY : ea_Y ids) {k44 : Int32 → Int32 → Int32 → Int32 → Int32 → Int32 → eM → Option (Int32 × eM)} (hk44 : ∀ (x1 : Int32) (x2 : Int32) (x3 : Int32) (x4 : Int32) (x5 : Int32) (x6 : Int32) (M : eM) (H : Heap) (locs : List Loc) (ls : Array Slot), k44 x1 x2 x3 x4 x5 x6 M = some res → ea_w E ids M s H locs → lv_has ls 8 [(0, .ref (E.1 100)), (1, .int x1), (2, .int x2), (3, .int x3), (4, .int x4), (5, .int x5), (6, .int x6)] → W p l e (ea_rm 7 175) s m args below meth cd H locs 0 0 (MQ below (ea_Qi E ids res) args s 0 0 (ea_Ad E ids)) (F0 m 44 ls [])) : ∀ (x1 : Int32) (x2 : Int32) (x3 : Int32) (x4 : Int32) (x5 : Int32) (x6 : Int32) (M : eM) (H : Heap) (locs : List Loc) (ls : Array Slot), fX11_cannot_99 k44 x1 x2 x3 x4 x5 x6 M = some res → ea_w E ids M s H locs → lv_has ls 8 [(0, .ref (E.1 100)), (1, .int x1), (2, .int x2), (3, .int x3), (4, .int x4), (5, .int x5), (6, .int x6)] → W p l e (ea_rm 7 175) s m args below meth cd H locs 0 0 (MQ below (ea_Qi E ids res) args s 0 0 (ea_Ad E ids)) (F0 m 99 ls []) := by
  intro x1 x2 x3 x4 x5 x6 M H locs ls hf  hw hl
  replace hf := (fX11_cannot_99.eq_1 ..).symm.trans hf
  refine lv_iinc (v := x6 + (1 : Int32)) (lv' := [(6, .int (x6 + (1 : Int32))), (0, .ref (E.1 100)), (1, .int x1), (2, .int x2), (3, .int x3), (4, .int x4), (5, .int x5)]) C.1 C.2.1 dX11_cannot_99 hl (k := 6) rfl rfl (by decide) rfl (fun ls hl => ?_)
  refine lv_goto (tgt := 44) C.1 C.2.1 dX11_cannot_102 (by decide) ?_
  exact hk44 _ _ _ _ _ _ _ _ _ _ hf hw (lv_sub hl [1, 2, 3, 4, 5, 6, 0] rfl)
set_option maxHeartbeats 4000000 in
set_option maxRecDepth 20000 in
theorem wX11_cannot_96 (C : ea_C p s m args meth cd cX11_cannot 8 (some .int) RX11) (hY : ea_Y ids) {k44 : Int32 → Int32 → Int32 → Int32 → Int32 → Int32 → eM → Option (Int32 × eM)} (hk44 : ∀ (x1 : Int32) (x2 : Int32) (x3 : Int32) (x4 : Int32) (x5 : Int32) (x6 : Int32) (M : eM) (H : Heap) (locs : List Loc) (ls : Array Slot), k44 x1 x2 x3 x4 x5 x6 M = some res → ea_w E ids M s H locs → lv_has ls 8 [(0, .ref (E.1 100)), (1, .int x1), (2, .int x2), (3, .int x3), (4, .int x4), (5, .int x5), (6, .int x6)] → W p l e (ea_rm 7 175) s m args below meth cd H locs 0 0 (MQ below (ea_Qi E ids res) args s 0 0 (ea_Ad E ids)) (F0 m 44 ls [])) : ∀ (x1 : Int32) (x2 : Int32) (x3 : Int32) (x4 : Int32) (x6 : Int32) (t0 : Int32) (t1 : Int32) (M : eM) (H : Heap) (locs : List Loc) (ls : Array Slot), fX11_cannot_96 k44 x1 x2 x3 x4 x6 t0 t1 M = some res → ea_w E ids M s H locs → lv_has ls 8 [(0, .ref (E.1 100)), (1, .int x1), (2, .int x2), (3, .int x3), (4, .int x4), (6, .int x6)] → W p l e (ea_rm 7 175) s m args below meth cd H locs 0 0 (MQ below (ea_Qi E ids res) args s 0 0 (ea_Ad E ids)) (F0 m 96 ls [.int t0, .int t1]) := by
  intro x1 x2 x3 x4 x6 t0 t1 M H locs ls hf  hw hl
  replace hf := (fX11_cannot_96.eq_1 ..).symm.trans hf
  refine lv_iadd C.1 C.2.1 dX11_cannot_96 ?_
  refine lv_istore (lv' := [(5, .int (t1 + t0)), (0, .ref (E.1 100)), (1, .int x1), (2, .int x2), (3, .int x3), (4, .int x4), (6, .int x6)]) C.1 C.2.1 dX11_cannot_97 hl (by decide) rfl (fun ls hl => ?_)
  exact wX11_cannot_99 C hY hk44 _ _ _ _ _ _ _ _ _ _ hf hw (lv_sub hl [1, 2, 3, 4, 5, 0, 6] rfl)
set_option maxHeartbeats 4000000 in
set_option maxRecDepth 20000 in
theorem wX11_cannot_44 (C : ea_C p s m args meth cd cX11_cannot 8 (some .int) RX11) (hY : ea_Y ids) : ∀ (n : Nat) (x1 : Int32) (x2 : Int32) (x3 : Int32) (x4 : Int32) (x5 : Int32) (x6 : Int32) (M : eM) (H : Heap) (locs : List Loc) (ls : Array Slot), fX11_cannot_44 n x1 x2 x3 x4 x5 x6 M = some res → ea_w E ids M s H locs → lv_has ls 8 [(0, .ref (E.1 100)), (1, .int x1), (2, .int x2), (3, .int x3), (4, .int x4), (5, .int x5), (6, .int x6)] → W p l e (ea_rm 7 175) s m args below meth cd H locs 0 0 (MQ below (ea_Qi E ids res) args s 0 0 (ea_Ad E ids)) (F0 m 44 ls []) := by
  intro n
  induction n with
  | zero => intro x1 x2 x3 x4 x5 x6 M H locs ls hf; cases hf
  | succ n ih =>
    intro x1 x2 x3 x4 x5 x6 M H locs ls hf  hw hl
    replace hf := (fX11_cannot_44.eq_2 ..).symm.trans hf
    refine lv_iload C.1 C.2.1 dX11_cannot_44 (lv_at hl 6 rfl) ?_
    refine lv_aload_n C.1 C.2.1 dX11_cannot_46 rfl (lv_at hl 0 rfl) ?_
    obtain ⟨r2, M3, he1, hf⟩ := ea_ci_s hf
    refine ea_runi2 hw (cl_X11_222 C hw (hY 100 11 rfl) (As := []) (rest := [.int x6]) (mX11_cells (l := l) (E := E) (ids := ids) hY he1) (by decide) rfl hl.1 rfl (Nat.le_of_ble_eq_true rfl) dX11_cannot_47 ⟨Nat.le_refl _, Nat.le_refl _⟩) (fun H locs hw => ?_)
    refine lv_icmp_ge (tgt := 105) C.1 C.2.1 dX11_cannot_50 (by decide) (fun hc4 => ?_) (fun hc4 => ?_)
    · replace hf := ea_if_t hc4 hf
      refine lv_iload C.1 C.2.1 dX11_cannot_105 (lv_at hl 5 rfl) ?_
      exact ea_iret C hw hf dX11_cannot_107
    · replace hf := ea_if_f hc4 hf
      refine lv_aload_n C.1 C.2.1 dX11_cannot_53 rfl (lv_at hl 0 rfl) ?_
      refine lv_iload C.1 C.2.1 dX11_cannot_54 (lv_at hl 6 rfl) ?_
      obtain ⟨r6, M7, he5, hf⟩ := ea_ci_s hf
      refine ea_runi2 hw (cl_X11_348 C hw (hY 100 11 rfl) (As := [.int x6]) (rest := []) (mX11_frontOf (l := l) (E := E) (ids := ids) hY he5) (by decide) rfl hl.1 rfl (Nat.le_of_ble_eq_true rfl) dX11_cannot_56 ⟨Nat.le_refl _, Nat.le_refl _⟩) (fun H locs hw => ?_)
      refine lv_istore (lv' := [(7, .int r6), (0, .ref (E.1 100)), (1, .int x1), (2, .int x2), (3, .int x3), (4, .int x4), (5, .int x5), (6, .int x6)]) C.1 C.2.1 dX11_cannot_59 hl (by decide) rfl (fun ls hl => ?_)
      refine lv_iload C.1 C.2.1 dX11_cannot_61 (lv_at hl 0 rfl) ?_
      refine lv_if_ge (tgt := 69) C.1 C.2.1 dX11_cannot_63 (by decide) (fun hc8 => ?_) (fun hc8 => ?_)
      · replace hf := ea_if_t hc8 hf
        refine lv_aload_n C.1 C.2.1 dX11_cannot_69 rfl (lv_at hl 1 rfl) ?_
        refine lv_iload C.1 C.2.1 dX11_cannot_70 (lv_at hl 7 rfl) ?_
        refine lv_iload C.1 C.2.1 dX11_cannot_72 (lv_at hl 0 rfl) ?_
        refine lv_iload_n C.1 C.2.1 dX11_cannot_74 rfl (lv_at hl 2 rfl) ?_
        refine lv_iload_n C.1 C.2.1 dX11_cannot_75 rfl (lv_at hl 3 rfl) ?_
        refine lv_iload_n C.1 C.2.1 dX11_cannot_76 rfl (lv_at hl 4 rfl) ?_
        obtain ⟨M10, he9, hf⟩ := ea_cv_s hf
        refine ea_runv hw (cl_X11_351 C hw (hY 100 11 rfl) (As := [.int x6, .int r6, .int x1, .int x2, .int x3]) (rest := []) (mX11_throwLight (l := l) (E := E) (ids := ids) hY he9) (by decide) rfl hl.1 rfl (Nat.le_of_ble_eq_true rfl) dX11_cannot_77 ⟨Nat.le_refl _, Nat.le_refl _⟩) (fun H locs hw => ?_)
        refine lv_iload C.1 C.2.1 dX11_cannot_80 (lv_at hl 6 rfl) ?_
        refine lv_aload_n C.1 C.2.1 dX11_cannot_82 rfl (lv_at hl 1 rfl) ?_
        refine gf_X11_342 C hw (hY 100 11 rfl) dX11_cannot_83 ?_
        refine lv_iload C.1 C.2.1 dX11_cannot_86 (lv_at hl 5 rfl) ?_
        refine lv_icmp_le (tgt := 95) C.1 C.2.1 dX11_cannot_88 (by decide) (fun hc11 => ?_) (fun hc11 => ?_)
        · replace hf := ea_if_t hc11 hf
          refine lv_iconst (v := 0) C.1 C.2.1 dX11_cannot_95 (by decide) ?_
          exact wX11_cannot_96 C hY ih _ _ _ _ _ _ _ _ _ _ _ hf hw (lv_sub hl [1, 2, 3, 4, 5, 7] rfl)
        · replace hf := ea_if_f hc11 hf
          refine lv_iconst (v := 1) C.1 C.2.1 dX11_cannot_91 (by decide) ?_
          refine lv_goto (tgt := 96) C.1 C.2.1 dX11_cannot_92 (by decide) ?_
          exact wX11_cannot_96 C hY ih _ _ _ _ _ _ _ _ _ _ _ hf hw (lv_sub hl [1, 2, 3, 4, 5, 7] rfl)
      · replace hf := ea_if_f hc8 hf
        refine lv_goto (tgt := 99) C.1 C.2.1 dX11_cannot_66 (by decide) ?_
        exact wX11_cannot_99 C hY ih _ _ _ _ _ _ _ _ _ _ hf hw (lv_sub hl [1, 2, 3, 4, 5, 6, 7] rfl)
set_option maxHeartbeats 4000000 in
set_option maxRecDepth 20000 in
theorem wX11_cannot_0 (C : ea_C p s m args meth cd cX11_cannot 8 (some .int) RX11) (hY : ea_Y ids) : ∀ (x1 : Int32) (x2 : Int32) (x3 : Int32) (x4 : Int32) (M : eM) (H : Heap) (locs : List Loc) (ls : Array Slot), fX11_cannot_0 x1 x2 x3 x4 M = some res → ea_w E ids M s H locs → lv_has ls 8 [(0, .ref (E.1 100)), (1, .int x1), (2, .int x2), (3, .int x3), (4, .int x4)] → W p l e (ea_rm 7 175) s m args below meth cd H locs 0 0 (MQ below (ea_Qi E ids res) args s 0 0 (ea_Ad E ids)) (F0 m 0 ls []) := by
  intro x1 x2 x3 x4 M H locs ls hf  hw hl
  replace hf := (fX11_cannot_0.eq_1 ..).symm.trans hf
  refine lv_aload_n C.1 C.2.1 dX11_cannot_0 rfl (lv_at hl 0 rfl) ?_
  refine lv_iload_n C.1 C.2.1 dX11_cannot_1 rfl (lv_at hl 1 rfl) ?_
  obtain ⟨r2, M3, he1, hf⟩ := ea_ci_s hf
  refine ea_runi2 hw (cl_X11_345 C hw (hY 100 11 rfl) (As := [.int x1]) (rest := []) (mX11_isEye (l := l) (E := E) (ids := ids) hY he1) (by decide) rfl hl.1 rfl (Nat.le_of_ble_eq_true rfl) dX11_cannot_2 ⟨Nat.le_refl _, Nat.le_refl _⟩) (fun H locs hw => ?_)
  refine lv_if_eq (tgt := 35) C.1 C.2.1 dX11_cannot_5 (by decide) (fun hc4 => ?_) (fun hc4 => ?_)
  · replace hf := ea_if_t hc4 hf
    refine lv_bipush (v := (-2 : Int32)) C.1 C.2.1 dX11_cannot_35 (by decide) ?_
    exact ea_iret C hw hf dX11_cannot_37
  · replace hf := ea_if_f hc4 hf
    refine lv_aload_n C.1 C.2.1 dX11_cannot_8 rfl (lv_at hl 0 rfl) ?_
    refine lv_iload_n C.1 C.2.1 dX11_cannot_9 rfl (lv_at hl 2 rfl) ?_
    obtain ⟨r6, M7, he5, hf⟩ := ea_ci_s hf
    refine ea_runi2 hw (cl_X11_225 C hw (hY 100 11 rfl) (As := [.int x2]) (rest := []) (mX11_isStory (l := l) (E := E) (ids := ids) hY he5) (by decide) rfl hl.1 rfl (Nat.le_of_ble_eq_true rfl) dX11_cannot_10 ⟨Nat.le_refl _, Nat.le_refl _⟩) (fun H locs hw => ?_)
    refine lv_if_eq (tgt := 35) C.1 C.2.1 dX11_cannot_13 (by decide) (fun hc8 => ?_) (fun hc8 => ?_)
    · replace hf := ea_if_t hc8 hf
      refine lv_bipush (v := (-2 : Int32)) C.1 C.2.1 dX11_cannot_35 (by decide) ?_
      exact ea_iret C hw hf dX11_cannot_37
    · replace hf := ea_if_f hc8 hf
      refine lv_iload_n C.1 C.2.1 dX11_cannot_16 rfl (lv_at hl 3 rfl) ?_
      obtain ⟨r10, M11, he9, hf⟩ := ea_ci_s hf
      refine ea_runi2 hw (cl_X11_320 C hw (As := [.int x3]) (rest := []) (mX11_isBound (l := l) (E := E) (ids := ids) hY he9) (by decide) rfl hl.1 rfl (Nat.le_of_ble_eq_true rfl) dX11_cannot_17 ⟨Nat.le_refl _, Nat.le_refl _⟩) (fun H locs hw => ?_)
      refine lv_if_eq (tgt := 35) C.1 C.2.1 dX11_cannot_20 (by decide) (fun hc12 => ?_) (fun hc12 => ?_)
      · replace hf := ea_if_t hc12 hf
        refine lv_bipush (v := (-2 : Int32)) C.1 C.2.1 dX11_cannot_35 (by decide) ?_
        exact ea_iret C hw hf dX11_cannot_37
      · replace hf := ea_if_f hc12 hf
        refine lv_iload C.1 C.2.1 dX11_cannot_23 (lv_at hl 4 rfl) ?_
        refine lv_iconst (v := 0) C.1 C.2.1 dX11_cannot_25 (by decide) ?_
        refine lv_sipush (v := 9999) C.1 C.2.1 dX11_cannot_26 (by decide) ?_
        obtain ⟨r14, M15, he13, hf⟩ := ea_ci_s hf
        refine ea_runi2 hw (cl_X11_172 C hw (As := [.int x4, .int (0 : Int32), .int (9999 : Int32)]) (rest := []) (mX11_in (l := l) (E := E) (ids := ids) hY he13) (by decide) rfl hl.1 rfl (Nat.le_of_ble_eq_true rfl) dX11_cannot_29 ⟨Nat.le_refl _, Nat.le_refl _⟩) (fun H locs hw => ?_)
        refine lv_if_ne (tgt := 38) C.1 C.2.1 dX11_cannot_32 (by decide) (fun hc16 => ?_) (fun hc16 => ?_)
        · replace hf := ea_if_f hc16 hf
          refine lv_iconst (v := 0) C.1 C.2.1 dX11_cannot_38 (by decide) ?_
          refine lv_istore (lv' := [(5, .int (0 : Int32)), (0, .ref (E.1 100)), (1, .int x1), (2, .int x2), (3, .int x3), (4, .int x4)]) C.1 C.2.1 dX11_cannot_39 hl (by decide) rfl (fun ls hl => ?_)
          refine lv_iconst (v := 0) C.1 C.2.1 dX11_cannot_41 (by decide) ?_
          refine lv_istore (lv' := [(6, .int (0 : Int32)), (5, .int (0 : Int32)), (0, .ref (E.1 100)), (1, .int x1), (2, .int x2), (3, .int x3), (4, .int x4)]) C.1 C.2.1 dX11_cannot_42 hl (by decide) rfl (fun ls hl => ?_)
          exact wX11_cannot_44 C hY ea_N _ _ _ _ _ _ _ _ _ _ hf hw (lv_sub hl [2, 3, 4, 5, 6, 1, 0] rfl)
        · replace hf := ea_if_t hc16 hf
          refine lv_bipush (v := (-2 : Int32)) C.1 C.2.1 dX11_cannot_35 (by decide) ?_
          exact ea_iret C hw hf dX11_cannot_37
set_option maxHeartbeats 4000000 in
set_option maxRecDepth 20000 in
theorem mX11_cannot {l : Launch} {E : eE} {ids : List Nat} (hY : ea_Y ids) {x1 : Int32} {x2 : Int32} {x3 : Int32} {x4 : Int32} {M : eM} {res : Int32 × eM} (hf : fX11_cannot x1 x2 x3 x4 M = some res) : ea_Mi l yX11_cannot cX11_cannot 8 (some .int) 7 175 E ids [.ref (E.1 100), .int x1, .int x2, .int x3, .int x4] M res := by
  refine ea_goi (by decide) (Nat.le_of_ble_eq_true rfl) wc_X11_cannot ?_
  intro p e s m below meth cd ls C hw hl
  exact wX11_cannot_0 C hY _ _ _ _ _ _ _ _ hf hw hl
end SX11_cannot
