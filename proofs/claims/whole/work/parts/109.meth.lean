def fX11_fails_0 (x1 : Int32) (M : eM) : Option (Int32 × eM) := some ((0 : Int32), ea_pI (ea_pI M 100 8 x1) 100 9 ((ea_pI M 100 8 x1).1 100 5))
def fX11_fails (x1 : Int32) (M : eM) : Option (Int32 × eM) := fX11_fails_0 x1 M
section SX11_fails
variable {p : Program} {l : Launch} {e : Env} {s : State} {m : MethodId} {args : Array Value} {below : List Frame} {meth : Method} {cd : Code} {E : eE} {ids : List Nat} {res : Int32 × eM}
set_option maxHeartbeats 4000000 in
set_option maxRecDepth 20000 in
theorem wX11_fails_0 (C : ea_C p s m args meth cd cX11_fails 2 (some .boolean) RX11) (hY : ea_Y ids) : ∀ (x1 : Int32) (M : eM) (H : Heap) (locs : List Loc) (ls : Array Slot), fX11_fails_0 x1 M = some res → ea_w E ids M s H locs → lv_has ls 2 [(0, .ref (E.1 100)), (1, .int x1)] → W p l e (ea_rm 0 0) s m args below meth cd H locs 0 0 (MQ below (ea_Qi E ids res) args s 0 0 (ea_Ad E ids)) (F0 m 0 ls []) := by
  intro x1 M H locs ls hf  hw hl
  replace hf := (fX11_fails_0.eq_1 ..).symm.trans hf
  refine lv_aload_n C.1 C.2.1 dX11_fails_0 rfl (lv_at hl 0 rfl) ?_
  refine lv_iload_n C.1 C.2.1 dX11_fails_1 rfl (lv_at hl 1 rfl) ?_
  refine pu_X11_166 C hw (hY 100 11 rfl) dX11_fails_2 (fun H locs hw => ?_)
  refine lv_aload_n C.1 C.2.1 dX11_fails_5 rfl (lv_at hl 0 rfl) ?_
  refine lv_aload_n C.1 C.2.1 dX11_fails_6 rfl (lv_at hl 0 rfl) ?_
  refine gf_X11_135 C hw (hY 100 11 rfl) dX11_fails_7 ?_
  refine pu_X11_13 C hw (hY 100 11 rfl) dX11_fails_10 (fun H locs hw => ?_)
  refine lv_iconst (v := 0) C.1 C.2.1 dX11_fails_13 (by decide) ?_
  exact ea_zret C hw (by decide) hf dX11_fails_14
set_option maxHeartbeats 4000000 in
set_option maxRecDepth 20000 in
theorem mX11_fails {l : Launch} {E : eE} {ids : List Nat} (hY : ea_Y ids) {x1 : Int32} {M : eM} {res : Int32 × eM} (hf : fX11_fails x1 M = some res) : ea_Mi l yX11_fails cX11_fails 2 (some .boolean) 0 0 E ids [.ref (E.1 100), .int x1] M res := by
  refine ea_goi (by decide) (Nat.le_of_ble_eq_true rfl) wc_X11_fails ?_
  intro p e s m below meth cd ls C hw hl
  exact wX11_fails_0 C hY _ _ _ _ _ hf hw hl
end SX11_fails

def fX11_isKey_0 (x1 : Int32) (M : eM) : Option (Int32 × eM) := if (M.1 100 3) = (1 : Int32) then (if (M.1 100 4) = x1 then (some ((1 : Int32), M)) else (some ((0 : Int32), M))) else (some ((0 : Int32), M))
def fX11_isKey (x1 : Int32) (M : eM) : Option (Int32 × eM) := fX11_isKey_0 x1 M
section SX11_isKey
variable {p : Program} {l : Launch} {e : Env} {s : State} {m : MethodId} {args : Array Value} {below : List Frame} {meth : Method} {cd : Code} {E : eE} {ids : List Nat} {res : Int32 × eM}
set_option maxHeartbeats 4000000 in
set_option maxRecDepth 20000 in
theorem wX11_isKey_0 (C : ea_C p s m args meth cd cX11_isKey 2 (some .boolean) RX11) (hY : ea_Y ids) : ∀ (x1 : Int32) (M : eM) (H : Heap) (locs : List Loc) (ls : Array Slot), fX11_isKey_0 x1 M = some res → ea_w E ids M s H locs → lv_has ls 2 [(0, .ref (E.1 100)), (1, .int x1)] → W p l e (ea_rm 0 0) s m args below meth cd H locs 0 0 (MQ below (ea_Qi E ids res) args s 0 0 (ea_Ad E ids)) (F0 m 0 ls []) := by
  intro x1 M H locs ls hf  hw hl
  replace hf := (fX11_isKey_0.eq_1 ..).symm.trans hf
  refine lv_aload_n C.1 C.2.1 dX11_isKey_0 rfl (lv_at hl 0 rfl) ?_
  refine gf_X11_141 C hw (hY 100 11 rfl) dX11_isKey_1 ?_
  refine lv_iconst (v := 1) C.1 C.2.1 dX11_isKey_4 (by decide) ?_
  refine lv_icmp_ne (tgt := 20) C.1 C.2.1 dX11_isKey_5 (by decide) (fun hc1 => ?_) (fun hc1 => ?_)
  · replace hf := ea_if_f hc1 hf
    refine lv_iconst (v := 0) C.1 C.2.1 dX11_isKey_20 (by decide) ?_
    exact ea_zret C hw (by decide) hf dX11_isKey_21
  · replace hf := ea_if_t hc1 hf
    refine lv_aload_n C.1 C.2.1 dX11_isKey_8 rfl (lv_at hl 0 rfl) ?_
    refine gf_X11_138 C hw (hY 100 11 rfl) dX11_isKey_9 ?_
    refine lv_iload_n C.1 C.2.1 dX11_isKey_12 rfl (lv_at hl 1 rfl) ?_
    refine lv_icmp_ne (tgt := 20) C.1 C.2.1 dX11_isKey_13 (by decide) (fun hc2 => ?_) (fun hc2 => ?_)
    · replace hf := ea_if_f hc2 hf
      refine lv_iconst (v := 0) C.1 C.2.1 dX11_isKey_20 (by decide) ?_
      exact ea_zret C hw (by decide) hf dX11_isKey_21
    · replace hf := ea_if_t hc2 hf
      refine lv_iconst (v := 1) C.1 C.2.1 dX11_isKey_16 (by decide) ?_
      refine lv_goto (tgt := 21) C.1 C.2.1 dX11_isKey_17 (by decide) ?_
      exact ea_zret C hw (by decide) hf dX11_isKey_21
set_option maxHeartbeats 4000000 in
set_option maxRecDepth 20000 in
theorem mX11_isKey {l : Launch} {E : eE} {ids : List Nat} (hY : ea_Y ids) {x1 : Int32} {M : eM} {res : Int32 × eM} (hf : fX11_isKey x1 M = some res) : ea_Mi l yX11_isKey cX11_isKey 2 (some .boolean) 0 0 E ids [.ref (E.1 100), .int x1] M res := by
  refine ea_goi (by decide) (Nat.le_of_ble_eq_true rfl) wc_X11_isKey ?_
  intro p e s m below meth cd ls C hw hl
  exact wX11_isKey_0 C hY _ _ _ _ _ hf hw hl
end SX11_isKey

def fX11_isDigit_0 (x0 : Int32) (M : eM) : Option (Int32 × eM) := if x0 < (48 : Int32) then (some ((0 : Int32), M)) else (if (57 : Int32) < x0 then (some ((0 : Int32), M)) else (some ((1 : Int32), M)))
def fX11_isDigit (x0 : Int32) (M : eM) : Option (Int32 × eM) := fX11_isDigit_0 x0 M
section SX11_isDigit
variable {p : Program} {l : Launch} {e : Env} {s : State} {m : MethodId} {args : Array Value} {below : List Frame} {meth : Method} {cd : Code} {E : eE} {ids : List Nat} {res : Int32 × eM}
set_option maxHeartbeats 4000000 in
set_option maxRecDepth 20000 in
theorem wX11_isDigit_0 (C : ea_C p s m args meth cd cX11_isDigit 1 (some .boolean) RX11) (hY : ea_Y ids) : ∀ (x0 : Int32) (M : eM) (H : Heap) (locs : List Loc) (ls : Array Slot), fX11_isDigit_0 x0 M = some res → ea_w E ids M s H locs → lv_has ls 1 [(0, .int x0)] → W p l e (ea_rm 0 0) s m args below meth cd H locs 0 0 (MQ below (ea_Qi E ids res) args s 0 0 (ea_Ad E ids)) (F0 m 0 ls []) := by
  intro x0 M H locs ls hf  hw hl
  replace hf := (fX11_isDigit_0.eq_1 ..).symm.trans hf
  refine lv_iload_n C.1 C.2.1 dX11_isDigit_0 rfl (lv_at hl 0 rfl) ?_
  refine lv_bipush (v := 48) C.1 C.2.1 dX11_isDigit_1 (by decide) ?_
  refine lv_icmp_lt (tgt := 16) C.1 C.2.1 dX11_isDigit_3 (by decide) (fun hc1 => ?_) (fun hc1 => ?_)
  · replace hf := ea_if_t hc1 hf
    refine lv_iconst (v := 0) C.1 C.2.1 dX11_isDigit_16 (by decide) ?_
    exact ea_zret C hw (by decide) hf dX11_isDigit_17
  · replace hf := ea_if_f hc1 hf
    refine lv_iload_n C.1 C.2.1 dX11_isDigit_6 rfl (lv_at hl 0 rfl) ?_
    refine lv_bipush (v := 57) C.1 C.2.1 dX11_isDigit_7 (by decide) ?_
    refine lv_icmp_gt (tgt := 16) C.1 C.2.1 dX11_isDigit_9 (by decide) (fun hc2 => ?_) (fun hc2 => ?_)
    · replace hf := ea_if_t hc2 hf
      refine lv_iconst (v := 0) C.1 C.2.1 dX11_isDigit_16 (by decide) ?_
      exact ea_zret C hw (by decide) hf dX11_isDigit_17
    · replace hf := ea_if_f hc2 hf
      refine lv_iconst (v := 1) C.1 C.2.1 dX11_isDigit_12 (by decide) ?_
      refine lv_goto (tgt := 17) C.1 C.2.1 dX11_isDigit_13 (by decide) ?_
      exact ea_zret C hw (by decide) hf dX11_isDigit_17
set_option maxHeartbeats 4000000 in
set_option maxRecDepth 20000 in
theorem mX11_isDigit {l : Launch} {E : eE} {ids : List Nat} (hY : ea_Y ids) {x0 : Int32} {M : eM} {res : Int32 × eM} (hf : fX11_isDigit x0 M = some res) : ea_Mi l yX11_isDigit cX11_isDigit 1 (some .boolean) 0 0 E ids [.int x0] M res := by
  refine ea_goi (by decide) (Nat.le_of_ble_eq_true rfl) wc_X11_isDigit ?_
  intro p e s m below meth cd ls C hw hl
  exact wX11_isDigit_0 C hY _ _ _ _ _ hf hw hl
end SX11_isDigit

def fX11_isSmall_0 (x0 : Int32) (M : eM) : Option (Int32 × eM) := if x0 < (97 : Int32) then (some ((0 : Int32), M)) else (if (122 : Int32) < x0 then (some ((0 : Int32), M)) else (some ((1 : Int32), M)))
def fX11_isSmall (x0 : Int32) (M : eM) : Option (Int32 × eM) := fX11_isSmall_0 x0 M
section SX11_isSmall
variable {p : Program} {l : Launch} {e : Env} {s : State} {m : MethodId} {args : Array Value} {below : List Frame} {meth : Method} {cd : Code} {E : eE} {ids : List Nat} {res : Int32 × eM}
set_option maxHeartbeats 4000000 in
set_option maxRecDepth 20000 in
theorem wX11_isSmall_0 (C : ea_C p s m args meth cd cX11_isSmall 1 (some .boolean) RX11) (hY : ea_Y ids) : ∀ (x0 : Int32) (M : eM) (H : Heap) (locs : List Loc) (ls : Array Slot), fX11_isSmall_0 x0 M = some res → ea_w E ids M s H locs → lv_has ls 1 [(0, .int x0)] → W p l e (ea_rm 0 0) s m args below meth cd H locs 0 0 (MQ below (ea_Qi E ids res) args s 0 0 (ea_Ad E ids)) (F0 m 0 ls []) := by
  intro x0 M H locs ls hf  hw hl
  replace hf := (fX11_isSmall_0.eq_1 ..).symm.trans hf
  refine lv_iload_n C.1 C.2.1 dX11_isSmall_0 rfl (lv_at hl 0 rfl) ?_
  refine lv_bipush (v := 97) C.1 C.2.1 dX11_isSmall_1 (by decide) ?_
  refine lv_icmp_lt (tgt := 16) C.1 C.2.1 dX11_isSmall_3 (by decide) (fun hc1 => ?_) (fun hc1 => ?_)
  · replace hf := ea_if_t hc1 hf
    refine lv_iconst (v := 0) C.1 C.2.1 dX11_isSmall_16 (by decide) ?_
    exact ea_zret C hw (by decide) hf dX11_isSmall_17
  · replace hf := ea_if_f hc1 hf
    refine lv_iload_n C.1 C.2.1 dX11_isSmall_6 rfl (lv_at hl 0 rfl) ?_
    refine lv_bipush (v := 122) C.1 C.2.1 dX11_isSmall_7 (by decide) ?_
    refine lv_icmp_gt (tgt := 16) C.1 C.2.1 dX11_isSmall_9 (by decide) (fun hc2 => ?_) (fun hc2 => ?_)
    · replace hf := ea_if_t hc2 hf
      refine lv_iconst (v := 0) C.1 C.2.1 dX11_isSmall_16 (by decide) ?_
      exact ea_zret C hw (by decide) hf dX11_isSmall_17
    · replace hf := ea_if_f hc2 hf
      refine lv_iconst (v := 1) C.1 C.2.1 dX11_isSmall_12 (by decide) ?_
      refine lv_goto (tgt := 17) C.1 C.2.1 dX11_isSmall_13 (by decide) ?_
      exact ea_zret C hw (by decide) hf dX11_isSmall_17
set_option maxHeartbeats 4000000 in
set_option maxRecDepth 20000 in
theorem mX11_isSmall {l : Launch} {E : eE} {ids : List Nat} (hY : ea_Y ids) {x0 : Int32} {M : eM} {res : Int32 × eM} (hf : fX11_isSmall x0 M = some res) : ea_Mi l yX11_isSmall cX11_isSmall 1 (some .boolean) 0 0 E ids [.int x0] M res := by
  refine ea_goi (by decide) (Nat.le_of_ble_eq_true rfl) wc_X11_isSmall ?_
  intro p e s m below meth cd ls C hw hl
  exact wX11_isSmall_0 C hY _ _ _ _ _ hf hw hl
end SX11_isSmall

def fX11_comes_2 (a0 : Nat) : Nat → Int32 → Int32 → eM → Option (eM)
  | 0, _, _, _ => none
  | n + 1, x1, x2, M => if x1 ≤ x2 then (some M) else (ea_ck (ea_ix (x1 + x2) (ea_len a0)) (ea_ck (ea_ix x2 (ea_len a0)) (fX11_comes_2 a0 n x1 (x2 + (1 : Int32)) (ea_pI M a0 (x2.toNatClampNeg) (M.1 a0 (x1 + x2).toNatClampNeg)))))
def fX11_comes_0 (a0 : Nat) (x1 : Int32) (M : eM) : Option (eM) := fX11_comes_2 a0 ea_N x1 (0 : Int32) M
def fX11_comes (a0 : Nat) (x1 : Int32) (M : eM) : Option (eM) := fX11_comes_0 a0 x1 M
section SX11_comes
variable {p : Program} {l : Launch} {e : Env} {s : State} {m : MethodId} {args : Array Value} {below : List Frame} {meth : Method} {cd : Code} {E : eE} {ids : List Nat} {res : eM} {a0 : Nat}
set_option maxHeartbeats 4000000 in
set_option maxRecDepth 20000 in
theorem wX11_comes_2 (C : ea_C p s m args meth cd cX11_comes 3 none RX11) (hY : ea_Y ids) (ho0 : ea_ok ids a0 20) : ∀ (n : Nat) (x1 : Int32) (x2 : Int32) (M : eM) (H : Heap) (locs : List Loc) (ls : Array Slot), fX11_comes_2 a0 n x1 x2 M = some res → ea_w E ids M s H locs → lv_has ls 3 [(0, .ref (E.1 a0)), (1, .int x1), (2, .int x2)] → W p l e (ea_rm 0 0) s m args below meth cd H locs 0 0 (MQ below (ea_Qv E ids res) args s 0 0 (ea_Ad E ids)) (F0 m 2 ls []) := by
  intro n
  induction n with
  | zero => intro x1 x2 M H locs ls hf; cases hf
  | succ n ih =>
    intro x1 x2 M H locs ls hf  hw hl
    replace hf := (fX11_comes_2.eq_2 ..).symm.trans hf
    refine lv_iload_n C.1 C.2.1 dX11_comes_2 rfl (lv_at hl 2 rfl) ?_
    refine lv_iload_n C.1 C.2.1 dX11_comes_3 rfl (lv_at hl 1 rfl) ?_
    refine lv_icmp_ge (tgt := 21) C.1 C.2.1 dX11_comes_4 (by decide) (fun hc1 => ?_) (fun hc1 => ?_)
    · replace hf := ea_if_t hc1 hf
      exact ea_vret C hw hf dX11_comes_21
    · replace hf := ea_if_f hc1 hf
      refine lv_aload_n C.1 C.2.1 dX11_comes_7 rfl (lv_at hl 0 rfl) ?_
      refine lv_iload_n C.1 C.2.1 dX11_comes_8 rfl (lv_at hl 2 rfl) ?_
      refine lv_aload_n C.1 C.2.1 dX11_comes_9 rfl (lv_at hl 0 rfl) ?_
      refine lv_iload_n C.1 C.2.1 dX11_comes_10 rfl (lv_at hl 1 rfl) ?_
      refine lv_iload_n C.1 C.2.1 dX11_comes_11 rfl (lv_at hl 2 rfl) ?_
      refine lv_iadd C.1 C.2.1 dX11_comes_12 ?_
      obtain ⟨hc2, hf⟩ := ea_ck_s hf
      refine ea_iald C hw ho0 hc2 dX11_comes_13 ?_
      obtain ⟨hc3, hf⟩ := ea_ck_s hf
      refine ea_iast C hw ho0 hc3 dX11_comes_14 (fun H locs hw => ?_)
      refine lv_iinc (v := x2 + (1 : Int32)) (lv' := [(2, .int (x2 + (1 : Int32))), (0, .ref (E.1 a0)), (1, .int x1)]) C.1 C.2.1 dX11_comes_15 hl (k := 2) rfl rfl (by decide) rfl (fun ls hl => ?_)
      refine lv_goto (tgt := 2) C.1 C.2.1 dX11_comes_18 (by decide) ?_
      exact ih _ _ _ _ _ _ hf hw (lv_sub hl [1, 2, 0] rfl)
set_option maxHeartbeats 4000000 in
set_option maxRecDepth 20000 in
theorem wX11_comes_0 (C : ea_C p s m args meth cd cX11_comes 3 none RX11) (hY : ea_Y ids) (ho0 : ea_ok ids a0 20) : ∀ (x1 : Int32) (M : eM) (H : Heap) (locs : List Loc) (ls : Array Slot), fX11_comes_0 a0 x1 M = some res → ea_w E ids M s H locs → lv_has ls 3 [(0, .ref (E.1 a0)), (1, .int x1)] → W p l e (ea_rm 0 0) s m args below meth cd H locs 0 0 (MQ below (ea_Qv E ids res) args s 0 0 (ea_Ad E ids)) (F0 m 0 ls []) := by
  intro x1 M H locs ls hf  hw hl
  replace hf := (fX11_comes_0.eq_1 ..).symm.trans hf
  refine lv_iconst (v := 0) C.1 C.2.1 dX11_comes_0 (by decide) ?_
  refine lv_istore_n (lv' := [(2, .int (0 : Int32)), (0, .ref (E.1 a0)), (1, .int x1)]) C.1 C.2.1 dX11_comes_1 rfl hl (by decide) rfl (fun ls hl => ?_)
  exact wX11_comes_2 C hY ho0 ea_N _ _ _ _ _ _ hf hw (lv_sub hl [1, 2, 0] rfl)
set_option maxHeartbeats 4000000 in
set_option maxRecDepth 20000 in
theorem mX11_comes {l : Launch} {E : eE} {ids : List Nat} (hY : ea_Y ids) {a0 : Nat} {x1 : Int32} (ho0 : ea_ok ids a0 20) {M : eM} {res : eM} (hf : fX11_comes a0 x1 M = some res) : ea_Mv l yX11_comes cX11_comes 3 0 0 E ids [.ref (E.1 a0), .int x1] M res := by
  refine ea_gov (by decide) (Nat.le_of_ble_eq_true rfl) wc_X11_comes ?_
  intro p e s m below meth cd ls C hw hl
  exact wX11_comes_0 C hY ho0 _ _ _ _ _ hf hw hl
end SX11_comes

def fX11_settle_46 (k66 : eM → Option (eM)) : Nat → Int32 → eM → Option (eM)
  | 0, _, _ => none
  | n + 1, x1, M => if (854 : Int32) ≤ x1 then (k66 M) else (ea_ck (ea_ix x1 (ea_len 114)) (fX11_settle_46 k66 n (x1 + (1 : Int32)) (ea_pI M 114 (x1.toNatClampNeg) (0 : Int32))))
def fX11_settle_68 (k86 : eM → Option (eM)) : Nat → Int32 → eM → Option (eM)
  | 0, _, _ => none
  | n + 1, x1, M => if (3 : Int32) ≤ x1 then (k86 M) else (ea_ck (ea_ix x1 (ea_len 115)) (fX11_settle_68 k86 n (x1 + (1 : Int32)) (ea_pI M 115 (x1.toNatClampNeg) (vp_nar .boolean (0 : Int32)))))
def fX11_settle_105 (k125 : Int32 → eM → Option (eM)) : Nat → Int32 → Int32 → eM → Option (eM)
  | 0, _, _, _ => none
  | n + 1, x1, x2, M => if (10 : Int32) ≤ x2 then (k125 x1 M) else (ea_cv (fX11_addThread x1 x2 (-1 : Int32) (0 : Int32) M) (fun M3 => fX11_settle_105 k125 n x1 (x2 + (1 : Int32)) M3))
def fX11_settle_125 (k93 : Int32 → eM → Option (eM)) (x1 : Int32) (M : eM) : Option (eM) := k93 (x1 + (1 : Int32)) M
def fX11_settle_93 (k131 : eM → Option (eM)) : Nat → Int32 → eM → Option (eM)
  | 0, _, _ => none
  | n + 1, x1, M => if (M.1 102 (4 : Int32).toNatClampNeg) ≤ x1 then (k131 M) else (fX11_settle_105 (fX11_settle_125 (fX11_settle_93 k131 n)) ea_N x1 (1 : Int32) M)
def fX11_settle_178 (k200 : Int32 → Int32 → Int32 → eM → Option (eM)) : Nat → Int32 → Int32 → Int32 → Int32 → eM → Option (eM)
  | 0, _, _, _, _, _ => none
  | n + 1, x1, x2, x3, x4, M => if (10 : Int32) ≤ x4 then (k200 x1 x2 x3 M) else (ea_cv (fX11_addThread x1 x2 x3 x4 M) (fun M3 => fX11_settle_178 k200 n x1 x2 x3 (x4 + (1 : Int32)) M3))
def fX11_settle_200 (k165 : Int32 → Int32 → Int32 → eM → Option (eM)) (x1 : Int32) (x2 : Int32) (x3 : Int32) (M : eM) : Option (eM) := k165 x1 x2 (x3 + (1 : Int32)) M
def fX11_settle_165 (k206 : Int32 → Int32 → eM → Option (eM)) : Nat → Int32 → Int32 → Int32 → eM → Option (eM)
  | 0, _, _, _, _ => none
  | n + 1, x1, x2, x3, M => if (M.1 102 (4 : Int32).toNatClampNeg) ≤ x3 then (k206 x1 x2 M) else (fX11_settle_178 (fX11_settle_200 (fX11_settle_165 k206 n)) ea_N x1 x2 x3 (1 : Int32) M)
def fX11_settle_206 (k155 : Int32 → Int32 → eM → Option (eM)) (x1 : Int32) (x2 : Int32) (M : eM) : Option (eM) := k155 x1 (x2 + (1 : Int32)) M
def fX11_settle_155 (k212 : Int32 → eM → Option (eM)) : Nat → Int32 → Int32 → eM → Option (eM)
  | 0, _, _, _ => none
  | n + 1, x1, x2, M => if (10 : Int32) ≤ x2 then (k212 x1 M) else (fX11_settle_165 (fX11_settle_206 (fX11_settle_155 k212 n)) ea_N x1 x2 (x1 + (1 : Int32)) M)
def fX11_settle_212 (k133 : Int32 → eM → Option (eM)) (x1 : Int32) (M : eM) : Option (eM) := k133 (x1 + (1 : Int32)) M
def fX11_settle_133 : Nat → Int32 → eM → Option (eM)
  | 0, _, _ => none
  | n + 1, x1, M => if (M.1 102 (4 : Int32).toNatClampNeg) ≤ x1 then (some M) else (if (M.1 102 (3 : Int32).toNatClampNeg) = (2 : Int32) then (fX11_settle_155 (fX11_settle_212 (fX11_settle_133 n)) ea_N x1 (1 : Int32) M) else (some M))
def fX11_settle_131 (M : eM) : Option (eM) := fX11_settle_133 ea_N (0 : Int32) M
def fX11_settle_86 (M : eM) : Option (eM) := fX11_settle_93 (fX11_settle_131) ea_N (0 : Int32) (ea_pI M 100 22 (0 : Int32))
def fX11_settle_66 (M : eM) : Option (eM) := fX11_settle_68 (fX11_settle_86) ea_N (0 : Int32) M
def fX11_settle_0 (M : eM) : Option (eM) := ea_cv (fX11_comes 102 (14 : Int32) M) (fun M2 => ea_cv (fX11_comes 106 (30 : Int32) M2) (fun M4 => ea_cv (fX11_comes 107 (4 : Int32) M4) (fun M6 => ea_cv (fX11_comes 108 (96 : Int32) M6) (fun M8 => ea_cv (fX11_comes 109 (18 : Int32) M8) (fun M10 => fX11_settle_46 (fX11_settle_66) ea_N (0 : Int32) M10)))))
def fX11_settle (M : eM) : Option (eM) := fX11_settle_0 M
section SX11_settle
variable {p : Program} {l : Launch} {e : Env} {s : State} {m : MethodId} {args : Array Value} {below : List Frame} {meth : Method} {cd : Code} {E : eE} {ids : List Nat} {res : eM}
set_option maxHeartbeats 4000000 in
set_option maxRecDepth 20000 in
theorem wX11_settle_46 (C : ea_C p s m args meth cd cX11_settle 5 none RX11) (hY : ea_Y ids) {k66 : eM → Option (eM)} (hk66 : ∀  (M : eM) (H : Heap) (locs : List Loc) (ls : Array Slot), k66 M = some res → ea_w E ids M s H locs → lv_has ls 5 [(0, .ref (E.1 100))] → W p l e (ea_rm 1 24) s m args below meth cd H locs 0 0 (MQ below (ea_Qv E ids res) args s 0 0 (ea_Ad E ids)) (F0 m 66 ls [])) : ∀ (n : Nat) (x1 : Int32) (M : eM) (H : Heap) (locs : List Loc) (ls : Array Slot), fX11_settle_46 k66 n x1 M = some res → ea_w E ids M s H locs → lv_has ls 5 [(0, .ref (E.1 100)), (1, .int x1)] → W p l e (ea_rm 1 24) s m args below meth cd H locs 0 0 (MQ below (ea_Qv E ids res) args s 0 0 (ea_Ad E ids)) (F0 m 46 ls []) := by
  intro n
  induction n with
  | zero => intro x1 M H locs ls hf; cases hf
  | succ n ih =>
    intro x1 M H locs ls hf  hw hl
    replace hf := (fX11_settle_46.eq_2 ..).symm.trans hf
    refine lv_iload_n C.1 C.2.1 dX11_settle_46 rfl (lv_at hl 1 rfl) ?_
    refine lv_sipush (v := 854) C.1 C.2.1 dX11_settle_47 (by decide) ?_
    refine lv_icmp_ge (tgt := 66) C.1 C.2.1 dX11_settle_50 (by decide) (fun hc1 => ?_) (fun hc1 => ?_)
    · replace hf := ea_if_t hc1 hf
      exact hk66 _ _ _ _ hf hw (lv_sub hl [0] rfl)
    · replace hf := ea_if_f hc1 hf
      refine lv_aload_n C.1 C.2.1 dX11_settle_53 rfl (lv_at hl 0 rfl) ?_
      refine gf_X11_55 C hw (hY 100 11 rfl) dX11_settle_54 ?_
      refine W.eq (g2 := F0 m 57 ls [.ref (E.1 114)]) rfl ?_
      refine lv_iload_n C.1 C.2.1 dX11_settle_57 rfl (lv_at hl 1 rfl) ?_
      refine lv_iconst (v := 0) C.1 C.2.1 dX11_settle_58 (by decide) ?_
      obtain ⟨hc2, hf⟩ := ea_ck_s hf
      refine ea_iast C hw (show ea_ok ids 114 20 from ok_11_27 (hY 100 11 rfl)) hc2 dX11_settle_59 (fun H locs hw => ?_)
      refine lv_iinc (v := x1 + (1 : Int32)) (lv' := [(1, .int (x1 + (1 : Int32))), (0, .ref (E.1 100))]) C.1 C.2.1 dX11_settle_60 hl (k := 1) rfl rfl (by decide) rfl (fun ls hl => ?_)
      refine lv_goto (tgt := 46) C.1 C.2.1 dX11_settle_63 (by decide) ?_
      exact ih _ _ _ _ _ hf hw (lv_sub hl [1, 0] rfl)
set_option maxHeartbeats 4000000 in
set_option maxRecDepth 20000 in
theorem wX11_settle_68 (C : ea_C p s m args meth cd cX11_settle 5 none RX11) (hY : ea_Y ids) {k86 : eM → Option (eM)} (hk86 : ∀  (M : eM) (H : Heap) (locs : List Loc) (ls : Array Slot), k86 M = some res → ea_w E ids M s H locs → lv_has ls 5 [(0, .ref (E.1 100))] → W p l e (ea_rm 1 24) s m args below meth cd H locs 0 0 (MQ below (ea_Qv E ids res) args s 0 0 (ea_Ad E ids)) (F0 m 86 ls [])) : ∀ (n : Nat) (x1 : Int32) (M : eM) (H : Heap) (locs : List Loc) (ls : Array Slot), fX11_settle_68 k86 n x1 M = some res → ea_w E ids M s H locs → lv_has ls 5 [(0, .ref (E.1 100)), (1, .int x1)] → W p l e (ea_rm 1 24) s m args below meth cd H locs 0 0 (MQ below (ea_Qv E ids res) args s 0 0 (ea_Ad E ids)) (F0 m 68 ls []) := by
  intro n
  induction n with
  | zero => intro x1 M H locs ls hf; cases hf
  | succ n ih =>
    intro x1 M H locs ls hf  hw hl
    replace hf := (fX11_settle_68.eq_2 ..).symm.trans hf
    refine lv_iload_n C.1 C.2.1 dX11_settle_68 rfl (lv_at hl 1 rfl) ?_
    refine lv_iconst (v := 3) C.1 C.2.1 dX11_settle_69 (by decide) ?_
    refine lv_icmp_ge (tgt := 86) C.1 C.2.1 dX11_settle_70 (by decide) (fun hc1 => ?_) (fun hc1 => ?_)
    · replace hf := ea_if_t hc1 hf
      exact hk86 _ _ _ _ hf hw (lv_sub hl [0] rfl)
    · replace hf := ea_if_f hc1 hf
      refine lv_aload_n C.1 C.2.1 dX11_settle_73 rfl (lv_at hl 0 rfl) ?_
      refine gf_X11_58 C hw (hY 100 11 rfl) dX11_settle_74 ?_
      refine W.eq (g2 := F0 m 77 ls [.ref (E.1 115)]) rfl ?_
      refine lv_iload_n C.1 C.2.1 dX11_settle_77 rfl (lv_at hl 1 rfl) ?_
      refine lv_iconst (v := 0) C.1 C.2.1 dX11_settle_78 (by decide) ?_
      obtain ⟨hc2, hf⟩ := ea_ck_s hf
      refine ea_zast C hw (show ea_ok ids 115 23 from ok_11_28 (hY 100 11 rfl)) hc2 dX11_settle_79 (fun H locs hw => ?_)
      refine lv_iinc (v := x1 + (1 : Int32)) (lv' := [(1, .int (x1 + (1 : Int32))), (0, .ref (E.1 100))]) C.1 C.2.1 dX11_settle_80 hl (k := 1) rfl rfl (by decide) rfl (fun ls hl => ?_)
      refine lv_goto (tgt := 68) C.1 C.2.1 dX11_settle_83 (by decide) ?_
      exact ih _ _ _ _ _ hf hw (lv_sub hl [1, 0] rfl)
set_option maxHeartbeats 4000000 in
set_option maxRecDepth 20000 in
theorem wX11_settle_105 (C : ea_C p s m args meth cd cX11_settle 5 none RX11) (hY : ea_Y ids) {k125 : Int32 → eM → Option (eM)} (hk125 : ∀ (x1 : Int32) (M : eM) (H : Heap) (locs : List Loc) (ls : Array Slot), k125 x1 M = some res → ea_w E ids M s H locs → lv_has ls 5 [(0, .ref (E.1 100)), (1, .int x1)] → W p l e (ea_rm 1 24) s m args below meth cd H locs 0 0 (MQ below (ea_Qv E ids res) args s 0 0 (ea_Ad E ids)) (F0 m 125 ls [])) : ∀ (n : Nat) (x1 : Int32) (x2 : Int32) (M : eM) (H : Heap) (locs : List Loc) (ls : Array Slot), fX11_settle_105 k125 n x1 x2 M = some res → ea_w E ids M s H locs → lv_has ls 5 [(0, .ref (E.1 100)), (1, .int x1), (2, .int x2)] → W p l e (ea_rm 1 24) s m args below meth cd H locs 0 0 (MQ below (ea_Qv E ids res) args s 0 0 (ea_Ad E ids)) (F0 m 105 ls []) := by
  intro n
  induction n with
  | zero => intro x1 x2 M H locs ls hf; cases hf
  | succ n ih =>
    intro x1 x2 M H locs ls hf  hw hl
    replace hf := (fX11_settle_105.eq_2 ..).symm.trans hf
    refine lv_iload_n C.1 C.2.1 dX11_settle_105 rfl (lv_at hl 2 rfl) ?_
    refine lv_bipush (v := 10) C.1 C.2.1 dX11_settle_106 (by decide) ?_
    refine lv_icmp_ge (tgt := 125) C.1 C.2.1 dX11_settle_108 (by decide) (fun hc1 => ?_) (fun hc1 => ?_)
    · replace hf := ea_if_t hc1 hf
      exact hk125 _ _ _ _ _ hf hw (lv_sub hl [0, 1] rfl)
    · replace hf := ea_if_f hc1 hf
      refine lv_aload_n C.1 C.2.1 dX11_settle_111 rfl (lv_at hl 0 rfl) ?_
      refine lv_iload_n C.1 C.2.1 dX11_settle_112 rfl (lv_at hl 1 rfl) ?_
      refine lv_iload_n C.1 C.2.1 dX11_settle_113 rfl (lv_at hl 2 rfl) ?_
      refine lv_iconst (v := (-1 : Int32)) C.1 C.2.1 dX11_settle_114 (by decide) ?_
      refine lv_iconst (v := 0) C.1 C.2.1 dX11_settle_115 (by decide) ?_
      obtain ⟨M3, he2, hf⟩ := ea_cv_s hf
      refine ea_runv hw (cl_X11_192 C hw (hY 100 11 rfl) (As := [.int x1, .int x2, .int (-1 : Int32), .int (0 : Int32)]) (rest := []) (mX11_addThread (l := l) (E := E) (ids := ids) hY he2) (by decide) rfl hl.1 rfl (Nat.le_of_ble_eq_true rfl) dX11_settle_116 ⟨Nat.le_refl _, Nat.le_refl _⟩) (fun H locs hw => ?_)
      refine lv_iinc (v := x2 + (1 : Int32)) (lv' := [(2, .int (x2 + (1 : Int32))), (0, .ref (E.1 100)), (1, .int x1)]) C.1 C.2.1 dX11_settle_119 hl (k := 2) rfl rfl (by decide) rfl (fun ls hl => ?_)
      refine lv_goto (tgt := 105) C.1 C.2.1 dX11_settle_122 (by decide) ?_
      exact ih _ _ _ _ _ _ hf hw (lv_sub hl [1, 2, 0] rfl)
set_option maxHeartbeats 4000000 in
set_option maxRecDepth 20000 in
theorem wX11_settle_125 (C : ea_C p s m args meth cd cX11_settle 5 none RX11) (hY : ea_Y ids) {k93 : Int32 → eM → Option (eM)} (hk93 : ∀ (x1 : Int32) (M : eM) (H : Heap) (locs : List Loc) (ls : Array Slot), k93 x1 M = some res → ea_w E ids M s H locs → lv_has ls 5 [(0, .ref (E.1 100)), (1, .int x1)] → W p l e (ea_rm 1 24) s m args below meth cd H locs 0 0 (MQ below (ea_Qv E ids res) args s 0 0 (ea_Ad E ids)) (F0 m 93 ls [])) : ∀ (x1 : Int32) (M : eM) (H : Heap) (locs : List Loc) (ls : Array Slot), fX11_settle_125 k93 x1 M = some res → ea_w E ids M s H locs → lv_has ls 5 [(0, .ref (E.1 100)), (1, .int x1)] → W p l e (ea_rm 1 24) s m args below meth cd H locs 0 0 (MQ below (ea_Qv E ids res) args s 0 0 (ea_Ad E ids)) (F0 m 125 ls []) := by
  intro x1 M H locs ls hf  hw hl
  replace hf := (fX11_settle_125.eq_1 ..).symm.trans hf
  refine lv_iinc (v := x1 + (1 : Int32)) (lv' := [(1, .int (x1 + (1 : Int32))), (0, .ref (E.1 100))]) C.1 C.2.1 dX11_settle_125 hl (k := 1) rfl rfl (by decide) rfl (fun ls hl => ?_)
  refine lv_goto (tgt := 93) C.1 C.2.1 dX11_settle_128 (by decide) ?_
  exact hk93 _ _ _ _ _ hf hw (lv_sub hl [1, 0] rfl)
set_option maxHeartbeats 4000000 in
set_option maxRecDepth 20000 in
theorem wX11_settle_93 (C : ea_C p s m args meth cd cX11_settle 5 none RX11) (hY : ea_Y ids) {k131 : eM → Option (eM)} (hk131 : ∀  (M : eM) (H : Heap) (locs : List Loc) (ls : Array Slot), k131 M = some res → ea_w E ids M s H locs → lv_has ls 5 [(0, .ref (E.1 100))] → W p l e (ea_rm 1 24) s m args below meth cd H locs 0 0 (MQ below (ea_Qv E ids res) args s 0 0 (ea_Ad E ids)) (F0 m 131 ls [])) : ∀ (n : Nat) (x1 : Int32) (M : eM) (H : Heap) (locs : List Loc) (ls : Array Slot), fX11_settle_93 k131 n x1 M = some res → ea_w E ids M s H locs → lv_has ls 5 [(0, .ref (E.1 100)), (1, .int x1)] → W p l e (ea_rm 1 24) s m args below meth cd H locs 0 0 (MQ below (ea_Qv E ids res) args s 0 0 (ea_Ad E ids)) (F0 m 93 ls []) := by
  intro n
  induction n with
  | zero => intro x1 M H locs ls hf; cases hf
  | succ n ih =>
    intro x1 M H locs ls hf  hw hl
    replace hf := (fX11_settle_93.eq_2 ..).symm.trans hf
    refine lv_iload_n C.1 C.2.1 dX11_settle_93 rfl (lv_at hl 1 rfl) ?_
    refine lv_aload_n C.1 C.2.1 dX11_settle_94 rfl (lv_at hl 0 rfl) ?_
    refine gf_X11_17 C hw (hY 100 11 rfl) dX11_settle_95 ?_
    refine W.eq (g2 := F0 m 98 ls [.ref (E.1 102), .int x1]) rfl ?_
    refine lv_iconst (v := 4) C.1 C.2.1 dX11_settle_98 (by decide) ?_
    refine ea_iald C hw (show ea_ok ids 102 20 from ok_11_12 (hY 100 11 rfl)) (by decide) dX11_settle_99 ?_
    refine lv_icmp_ge (tgt := 131) C.1 C.2.1 dX11_settle_100 (by decide) (fun hc1 => ?_) (fun hc1 => ?_)
    · replace hf := ea_if_t hc1 hf
      exact hk131 _ _ _ _ hf hw (lv_sub hl [0] rfl)
    · replace hf := ea_if_f hc1 hf
      refine lv_iconst (v := 1) C.1 C.2.1 dX11_settle_103 (by decide) ?_
      refine lv_istore_n (lv' := [(2, .int (1 : Int32)), (0, .ref (E.1 100)), (1, .int x1)]) C.1 C.2.1 dX11_settle_104 rfl hl (by decide) rfl (fun ls hl => ?_)
      exact wX11_settle_105 C hY (wX11_settle_125 C hY ih) ea_N _ _ _ _ _ _ hf hw (lv_sub hl [1, 2, 0] rfl)
set_option maxHeartbeats 4000000 in
set_option maxRecDepth 20000 in
theorem wX11_settle_178 (C : ea_C p s m args meth cd cX11_settle 5 none RX11) (hY : ea_Y ids) {k200 : Int32 → Int32 → Int32 → eM → Option (eM)} (hk200 : ∀ (x1 : Int32) (x2 : Int32) (x3 : Int32) (M : eM) (H : Heap) (locs : List Loc) (ls : Array Slot), k200 x1 x2 x3 M = some res → ea_w E ids M s H locs → lv_has ls 5 [(0, .ref (E.1 100)), (1, .int x1), (2, .int x2), (3, .int x3)] → W p l e (ea_rm 1 24) s m args below meth cd H locs 0 0 (MQ below (ea_Qv E ids res) args s 0 0 (ea_Ad E ids)) (F0 m 200 ls [])) : ∀ (n : Nat) (x1 : Int32) (x2 : Int32) (x3 : Int32) (x4 : Int32) (M : eM) (H : Heap) (locs : List Loc) (ls : Array Slot), fX11_settle_178 k200 n x1 x2 x3 x4 M = some res → ea_w E ids M s H locs → lv_has ls 5 [(0, .ref (E.1 100)), (1, .int x1), (2, .int x2), (3, .int x3), (4, .int x4)] → W p l e (ea_rm 1 24) s m args below meth cd H locs 0 0 (MQ below (ea_Qv E ids res) args s 0 0 (ea_Ad E ids)) (F0 m 178 ls []) := by
  intro n
  induction n with
  | zero => intro x1 x2 x3 x4 M H locs ls hf; cases hf
  | succ n ih =>
    intro x1 x2 x3 x4 M H locs ls hf  hw hl
    replace hf := (fX11_settle_178.eq_2 ..).symm.trans hf
    refine lv_iload C.1 C.2.1 dX11_settle_178 (lv_at hl 4 rfl) ?_
    refine lv_bipush (v := 10) C.1 C.2.1 dX11_settle_180 (by decide) ?_
    refine lv_icmp_ge (tgt := 200) C.1 C.2.1 dX11_settle_182 (by decide) (fun hc1 => ?_) (fun hc1 => ?_)
    · replace hf := ea_if_t hc1 hf
      exact hk200 _ _ _ _ _ _ _ hf hw (lv_sub hl [0, 1, 2, 3] rfl)
    · replace hf := ea_if_f hc1 hf
      refine lv_aload_n C.1 C.2.1 dX11_settle_185 rfl (lv_at hl 0 rfl) ?_
      refine lv_iload_n C.1 C.2.1 dX11_settle_186 rfl (lv_at hl 1 rfl) ?_
      refine lv_iload_n C.1 C.2.1 dX11_settle_187 rfl (lv_at hl 2 rfl) ?_
      refine lv_iload_n C.1 C.2.1 dX11_settle_188 rfl (lv_at hl 3 rfl) ?_
      refine lv_iload C.1 C.2.1 dX11_settle_189 (lv_at hl 4 rfl) ?_
      obtain ⟨M3, he2, hf⟩ := ea_cv_s hf
      refine ea_runv hw (cl_X11_192 C hw (hY 100 11 rfl) (As := [.int x1, .int x2, .int x3, .int x4]) (rest := []) (mX11_addThread (l := l) (E := E) (ids := ids) hY he2) (by decide) rfl hl.1 rfl (Nat.le_of_ble_eq_true rfl) dX11_settle_191 ⟨Nat.le_refl _, Nat.le_refl _⟩) (fun H locs hw => ?_)
      refine lv_iinc (v := x4 + (1 : Int32)) (lv' := [(4, .int (x4 + (1 : Int32))), (0, .ref (E.1 100)), (1, .int x1), (2, .int x2), (3, .int x3)]) C.1 C.2.1 dX11_settle_194 hl (k := 4) rfl rfl (by decide) rfl (fun ls hl => ?_)
      refine lv_goto (tgt := 178) C.1 C.2.1 dX11_settle_197 (by decide) ?_
      exact ih _ _ _ _ _ _ _ _ hf hw (lv_sub hl [1, 2, 3, 4, 0] rfl)
set_option maxHeartbeats 4000000 in
set_option maxRecDepth 20000 in
theorem wX11_settle_200 (C : ea_C p s m args meth cd cX11_settle 5 none RX11) (hY : ea_Y ids) {k165 : Int32 → Int32 → Int32 → eM → Option (eM)} (hk165 : ∀ (x1 : Int32) (x2 : Int32) (x3 : Int32) (M : eM) (H : Heap) (locs : List Loc) (ls : Array Slot), k165 x1 x2 x3 M = some res → ea_w E ids M s H locs → lv_has ls 5 [(0, .ref (E.1 100)), (1, .int x1), (2, .int x2), (3, .int x3)] → W p l e (ea_rm 1 24) s m args below meth cd H locs 0 0 (MQ below (ea_Qv E ids res) args s 0 0 (ea_Ad E ids)) (F0 m 165 ls [])) : ∀ (x1 : Int32) (x2 : Int32) (x3 : Int32) (M : eM) (H : Heap) (locs : List Loc) (ls : Array Slot), fX11_settle_200 k165 x1 x2 x3 M = some res → ea_w E ids M s H locs → lv_has ls 5 [(0, .ref (E.1 100)), (1, .int x1), (2, .int x2), (3, .int x3)] → W p l e (ea_rm 1 24) s m args below meth cd H locs 0 0 (MQ below (ea_Qv E ids res) args s 0 0 (ea_Ad E ids)) (F0 m 200 ls []) := by
  intro x1 x2 x3 M H locs ls hf  hw hl
  replace hf := (fX11_settle_200.eq_1 ..).symm.trans hf
  refine lv_iinc (v := x3 + (1 : Int32)) (lv' := [(3, .int (x3 + (1 : Int32))), (0, .ref (E.1 100)), (1, .int x1), (2, .int x2)]) C.1 C.2.1 dX11_settle_200 hl (k := 3) rfl rfl (by decide) rfl (fun ls hl => ?_)
  refine lv_goto (tgt := 165) C.1 C.2.1 dX11_settle_203 (by decide) ?_
  exact hk165 _ _ _ _ _ _ _ hf hw (lv_sub hl [1, 2, 3, 0] rfl)
set_option maxHeartbeats 4000000 in
set_option maxRecDepth 20000 in
theorem wX11_settle_165 (C : ea_C p s m args meth cd cX11_settle 5 none RX11) (hY : ea_Y ids) {k206 : Int32 → Int32 → eM → Option (eM)} (hk206 : ∀ (x1 : Int32) (x2 : Int32) (M : eM) (H : Heap) (locs : List Loc) (ls : Array Slot), k206 x1 x2 M = some res → ea_w E ids M s H locs → lv_has ls 5 [(0, .ref (E.1 100)), (1, .int x1), (2, .int x2)] → W p l e (ea_rm 1 24) s m args below meth cd H locs 0 0 (MQ below (ea_Qv E ids res) args s 0 0 (ea_Ad E ids)) (F0 m 206 ls [])) : ∀ (n : Nat) (x1 : Int32) (x2 : Int32) (x3 : Int32) (M : eM) (H : Heap) (locs : List Loc) (ls : Array Slot), fX11_settle_165 k206 n x1 x2 x3 M = some res → ea_w E ids M s H locs → lv_has ls 5 [(0, .ref (E.1 100)), (1, .int x1), (2, .int x2), (3, .int x3)] → W p l e (ea_rm 1 24) s m args below meth cd H locs 0 0 (MQ below (ea_Qv E ids res) args s 0 0 (ea_Ad E ids)) (F0 m 165 ls []) := by
  intro n
  induction n with
  | zero => intro x1 x2 x3 M H locs ls hf; cases hf
  | succ n ih =>
    intro x1 x2 x3 M H locs ls hf  hw hl
    replace hf := (fX11_settle_165.eq_2 ..).symm.trans hf
    refine lv_iload_n C.1 C.2.1 dX11_settle_165 rfl (lv_at hl 3 rfl) ?_
    refine lv_aload_n C.1 C.2.1 dX11_settle_166 rfl (lv_at hl 0 rfl) ?_
    refine gf_X11_17 C hw (hY 100 11 rfl) dX11_settle_167 ?_
    refine W.eq (g2 := F0 m 170 ls [.ref (E.1 102), .int x3]) rfl ?_
    refine lv_iconst (v := 4) C.1 C.2.1 dX11_settle_170 (by decide) ?_
    refine ea_iald C hw (show ea_ok ids 102 20 from ok_11_12 (hY 100 11 rfl)) (by decide) dX11_settle_171 ?_
    refine lv_icmp_ge (tgt := 206) C.1 C.2.1 dX11_settle_172 (by decide) (fun hc1 => ?_) (fun hc1 => ?_)
    · replace hf := ea_if_t hc1 hf
      exact hk206 _ _ _ _ _ _ hf hw (lv_sub hl [0, 1, 2] rfl)
    · replace hf := ea_if_f hc1 hf
      refine lv_iconst (v := 1) C.1 C.2.1 dX11_settle_175 (by decide) ?_
      refine lv_istore (lv' := [(4, .int (1 : Int32)), (0, .ref (E.1 100)), (1, .int x1), (2, .int x2), (3, .int x3)]) C.1 C.2.1 dX11_settle_176 hl (by decide) rfl (fun ls hl => ?_)
      exact wX11_settle_178 C hY (wX11_settle_200 C hY ih) ea_N _ _ _ _ _ _ _ _ hf hw (lv_sub hl [1, 2, 3, 4, 0] rfl)
set_option maxHeartbeats 4000000 in
set_option maxRecDepth 20000 in
theorem wX11_settle_206 (C : ea_C p s m args meth cd cX11_settle 5 none RX11) (hY : ea_Y ids) {k155 : Int32 → Int32 → eM → Option (eM)} (hk155 : ∀ (x1 : Int32) (x2 : Int32) (M : eM) (H : Heap) (locs : List Loc) (ls : Array Slot), k155 x1 x2 M = some res → ea_w E ids M s H locs → lv_has ls 5 [(0, .ref (E.1 100)), (1, .int x1), (2, .int x2)] → W p l e (ea_rm 1 24) s m args below meth cd H locs 0 0 (MQ below (ea_Qv E ids res) args s 0 0 (ea_Ad E ids)) (F0 m 155 ls [])) : ∀ (x1 : Int32) (x2 : Int32) (M : eM) (H : Heap) (locs : List Loc) (ls : Array Slot), fX11_settle_206 k155 x1 x2 M = some res → ea_w E ids M s H locs → lv_has ls 5 [(0, .ref (E.1 100)), (1, .int x1), (2, .int x2)] → W p l e (ea_rm 1 24) s m args below meth cd H locs 0 0 (MQ below (ea_Qv E ids res) args s 0 0 (ea_Ad E ids)) (F0 m 206 ls []) := by
  intro x1 x2 M H locs ls hf  hw hl
  replace hf := (fX11_settle_206.eq_1 ..).symm.trans hf
  refine lv_iinc (v := x2 + (1 : Int32)) (lv' := [(2, .int (x2 + (1 : Int32))), (0, .ref (E.1 100)), (1, .int x1)]) C.1 C.2.1 dX11_settle_206 hl (k := 2) rfl rfl (by decide) rfl (fun ls hl => ?_)
  refine lv_goto (tgt := 155) C.1 C.2.1 dX11_settle_209 (by decide) ?_
  exact hk155 _ _ _ _ _ _ hf hw (lv_sub hl [1, 2, 0] rfl)
set_option maxHeartbeats 4000000 in
set_option maxRecDepth 20000 in
theorem wX11_settle_155 (C : ea_C p s m args meth cd cX11_settle 5 none RX11) (hY : ea_Y ids) {k212 : Int32 → eM → Option (eM)} (hk212 : ∀ (x1 : Int32) (M : eM) (H : Heap) (locs : List Loc) (ls : Array Slot), k212 x1 M = some res → ea_w E ids M s H locs → lv_has ls 5 [(0, .ref (E.1 100)), (1, .int x1)] → W p l e (ea_rm 1 24) s m args below meth cd H locs 0 0 (MQ below (ea_Qv E ids res) args s 0 0 (ea_Ad E ids)) (F0 m 212 ls [])) : ∀ (n : Nat) (x1 : Int32) (x2 : Int32) (M : eM) (H : Heap) (locs : List Loc) (ls : Array Slot), fX11_settle_155 k212 n x1 x2 M = some res → ea_w E ids M s H locs → lv_has ls 5 [(0, .ref (E.1 100)), (1, .int x1), (2, .int x2)] → W p l e (ea_rm 1 24) s m args below meth cd H locs 0 0 (MQ below (ea_Qv E ids res) args s 0 0 (ea_Ad E ids)) (F0 m 155 ls []) := by
  intro n
  induction n with
  | zero => intro x1 x2 M H locs ls hf; cases hf
  | succ n ih =>
    intro x1 x2 M H locs ls hf  hw hl
    replace hf := (fX11_settle_155.eq_2 ..).symm.trans hf
    refine lv_iload_n C.1 C.2.1 dX11_settle_155 rfl (lv_at hl 2 rfl) ?_
    refine lv_bipush (v := 10) C.1 C.2.1 dX11_settle_156 (by decide) ?_
    refine lv_icmp_ge (tgt := 212) C.1 C.2.1 dX11_settle_158 (by decide) (fun hc1 => ?_) (fun hc1 => ?_)
    · replace hf := ea_if_t hc1 hf
      exact hk212 _ _ _ _ _ hf hw (lv_sub hl [0, 1] rfl)
    · replace hf := ea_if_f hc1 hf
      refine lv_iload_n C.1 C.2.1 dX11_settle_161 rfl (lv_at hl 1 rfl) ?_
      refine lv_iconst (v := 1) C.1 C.2.1 dX11_settle_162 (by decide) ?_
      refine lv_iadd C.1 C.2.1 dX11_settle_163 ?_
      refine lv_istore_n (lv' := [(3, .int (x1 + (1 : Int32))), (0, .ref (E.1 100)), (1, .int x1), (2, .int x2)]) C.1 C.2.1 dX11_settle_164 rfl hl (by decide) rfl (fun ls hl => ?_)
      exact wX11_settle_165 C hY (wX11_settle_206 C hY ih) ea_N _ _ _ _ _ _ _ hf hw (lv_sub hl [1, 2, 3, 0] rfl)
set_option maxHeartbeats 4000000 in
set_option maxRecDepth 20000 in
theorem wX11_settle_212 (C : ea_C p s m args meth cd cX11_settle 5 none RX11) (hY : ea_Y ids) {k133 : Int32 → eM → Option (eM)} (hk133 : ∀ (x1 : Int32) (M : eM) (H : Heap) (locs : List Loc) (ls : Array Slot), k133 x1 M = some res → ea_w E ids M s H locs → lv_has ls 5 [(0, .ref (E.1 100)), (1, .int x1)] → W p l e (ea_rm 1 24) s m args below meth cd H locs 0 0 (MQ below (ea_Qv E ids res) args s 0 0 (ea_Ad E ids)) (F0 m 133 ls [])) : ∀ (x1 : Int32) (M : eM) (H : Heap) (locs : List Loc) (ls : Array Slot), fX11_settle_212 k133 x1 M = some res → ea_w E ids M s H locs → lv_has ls 5 [(0, .ref (E.1 100)), (1, .int x1)] → W p l e (ea_rm 1 24) s m args below meth cd H locs 0 0 (MQ below (ea_Qv E ids res) args s 0 0 (ea_Ad E ids)) (F0 m 212 ls []) := by
  intro x1 M H locs ls hf  hw hl
  replace hf := (fX11_settle_212.eq_1 ..).symm.trans hf
  refine lv_iinc (v := x1 + (1 : Int32)) (lv' := [(1, .int (x1 + (1 : Int32))), (0, .ref (E.1 100))]) C.1 C.2.1 dX11_settle_212 hl (k := 1) rfl rfl (by decide) rfl (fun ls hl => ?_)
  refine lv_goto (tgt := 133) C.1 C.2.1 dX11_settle_215 (by decide) ?_
  exact hk133 _ _ _ _ _ hf hw (lv_sub hl [1, 0] rfl)
set_option maxHeartbeats 4000000 in
set_option maxRecDepth 20000 in
theorem wX11_settle_133 (C : ea_C p s m args meth cd cX11_settle 5 none RX11) (hY : ea_Y ids) : ∀ (n : Nat) (x1 : Int32) (M : eM) (H : Heap) (locs : List Loc) (ls : Array Slot), fX11_settle_133 n x1 M = some res → ea_w E ids M s H locs → lv_has ls 5 [(0, .ref (E.1 100)), (1, .int x1)] → W p l e (ea_rm 1 24) s m args below meth cd H locs 0 0 (MQ below (ea_Qv E ids res) args s 0 0 (ea_Ad E ids)) (F0 m 133 ls []) := by
  intro n
  induction n with
  | zero => intro x1 M H locs ls hf; cases hf
  | succ n ih =>
    intro x1 M H locs ls hf  hw hl
    replace hf := (fX11_settle_133.eq_2 ..).symm.trans hf
    refine lv_iload_n C.1 C.2.1 dX11_settle_133 rfl (lv_at hl 1 rfl) ?_
    refine lv_aload_n C.1 C.2.1 dX11_settle_134 rfl (lv_at hl 0 rfl) ?_
    refine gf_X11_17 C hw (hY 100 11 rfl) dX11_settle_135 ?_
    refine W.eq (g2 := F0 m 138 ls [.ref (E.1 102), .int x1]) rfl ?_
    refine lv_iconst (v := 4) C.1 C.2.1 dX11_settle_138 (by decide) ?_
    refine ea_iald C hw (show ea_ok ids 102 20 from ok_11_12 (hY 100 11 rfl)) (by decide) dX11_settle_139 ?_
    refine lv_icmp_ge (tgt := 218) C.1 C.2.1 dX11_settle_140 (by decide) (fun hc1 => ?_) (fun hc1 => ?_)
    · replace hf := ea_if_t hc1 hf
      exact ea_vret C hw hf dX11_settle_218
    · replace hf := ea_if_f hc1 hf
      refine lv_aload_n C.1 C.2.1 dX11_settle_143 rfl (lv_at hl 0 rfl) ?_
      refine gf_X11_17 C hw (hY 100 11 rfl) dX11_settle_144 ?_
      refine W.eq (g2 := F0 m 147 ls [.ref (E.1 102)]) rfl ?_
      refine lv_iconst (v := 3) C.1 C.2.1 dX11_settle_147 (by decide) ?_
      refine ea_iald C hw (show ea_ok ids 102 20 from ok_11_12 (hY 100 11 rfl)) (by decide) dX11_settle_148 ?_
      refine lv_iconst (v := 2) C.1 C.2.1 dX11_settle_149 (by decide) ?_
      refine lv_icmp_ne (tgt := 218) C.1 C.2.1 dX11_settle_150 (by decide) (fun hc2 => ?_) (fun hc2 => ?_)
      · replace hf := ea_if_f hc2 hf
        exact ea_vret C hw hf dX11_settle_218
      · replace hf := ea_if_t hc2 hf
        refine lv_iconst (v := 1) C.1 C.2.1 dX11_settle_153 (by decide) ?_
        refine lv_istore_n (lv' := [(2, .int (1 : Int32)), (0, .ref (E.1 100)), (1, .int x1)]) C.1 C.2.1 dX11_settle_154 rfl hl (by decide) rfl (fun ls hl => ?_)
        exact wX11_settle_155 C hY (wX11_settle_212 C hY ih) ea_N _ _ _ _ _ _ hf hw (lv_sub hl [1, 2, 0] rfl)
set_option maxHeartbeats 4000000 in
set_option maxRecDepth 20000 in
theorem wX11_settle_131 (C : ea_C p s m args meth cd cX11_settle 5 none RX11) (hY : ea_Y ids) : ∀  (M : eM) (H : Heap) (locs : List Loc) (ls : Array Slot), fX11_settle_131 M = some res → ea_w E ids M s H locs → lv_has ls 5 [(0, .ref (E.1 100))] → W p l e (ea_rm 1 24) s m args below meth cd H locs 0 0 (MQ below (ea_Qv E ids res) args s 0 0 (ea_Ad E ids)) (F0 m 131 ls []) := by
  intro M H locs ls hf  hw hl
  replace hf := (fX11_settle_131.eq_1 ..).symm.trans hf
  refine lv_iconst (v := 0) C.1 C.2.1 dX11_settle_131 (by decide) ?_
  refine lv_istore_n (lv' := [(1, .int (0 : Int32)), (0, .ref (E.1 100))]) C.1 C.2.1 dX11_settle_132 rfl hl (by decide) rfl (fun ls hl => ?_)
  exact wX11_settle_133 C hY ea_N _ _ _ _ _ hf hw (lv_sub hl [1, 0] rfl)
set_option maxHeartbeats 4000000 in
set_option maxRecDepth 20000 in
theorem wX11_settle_86 (C : ea_C p s m args meth cd cX11_settle 5 none RX11) (hY : ea_Y ids) : ∀  (M : eM) (H : Heap) (locs : List Loc) (ls : Array Slot), fX11_settle_86 M = some res → ea_w E ids M s H locs → lv_has ls 5 [(0, .ref (E.1 100))] → W p l e (ea_rm 1 24) s m args below meth cd H locs 0 0 (MQ below (ea_Qv E ids res) args s 0 0 (ea_Ad E ids)) (F0 m 86 ls []) := by
  intro M H locs ls hf  hw hl
  replace hf := (fX11_settle_86.eq_1 ..).symm.trans hf
  refine lv_aload_n C.1 C.2.1 dX11_settle_86 rfl (lv_at hl 0 rfl) ?_
  refine lv_iconst (v := 0) C.1 C.2.1 dX11_settle_87 (by decide) ?_
  refine pu_X11_189 C hw (hY 100 11 rfl) dX11_settle_88 (fun H locs hw => ?_)
  refine lv_iconst (v := 0) C.1 C.2.1 dX11_settle_91 (by decide) ?_
  refine lv_istore_n (lv' := [(1, .int (0 : Int32)), (0, .ref (E.1 100))]) C.1 C.2.1 dX11_settle_92 rfl hl (by decide) rfl (fun ls hl => ?_)
  exact wX11_settle_93 C hY (wX11_settle_131 C hY) ea_N _ _ _ _ _ hf hw (lv_sub hl [1, 0] rfl)
set_option maxHeartbeats 4000000 in
set_option maxRecDepth 20000 in
theorem wX11_settle_66 (C : ea_C p s m args meth cd cX11_settle 5 none RX11) (hY : ea_Y ids) : ∀  (M : eM) (H : Heap) (locs : List Loc) (ls : Array Slot), fX11_settle_66 M = some res → ea_w E ids M s H locs → lv_has ls 5 [(0, .ref (E.1 100))] → W p l e (ea_rm 1 24) s m args below meth cd H locs 0 0 (MQ below (ea_Qv E ids res) args s 0 0 (ea_Ad E ids)) (F0 m 66 ls []) := by
  intro M H locs ls hf  hw hl
  replace hf := (fX11_settle_66.eq_1 ..).symm.trans hf
  refine lv_iconst (v := 0) C.1 C.2.1 dX11_settle_66 (by decide) ?_
  refine lv_istore_n (lv' := [(1, .int (0 : Int32)), (0, .ref (E.1 100))]) C.1 C.2.1 dX11_settle_67 rfl hl (by decide) rfl (fun ls hl => ?_)
  exact wX11_settle_68 C hY (wX11_settle_86 C hY) ea_N _ _ _ _ _ hf hw (lv_sub hl [1, 0] rfl)
set_option maxHeartbeats 4000000 in
set_option maxRecDepth 20000 in
theorem wX11_settle_0 (C : ea_C p s m args meth cd cX11_settle 5 none RX11) (hY : ea_Y ids) : ∀  (M : eM) (H : Heap) (locs : List Loc) (ls : Array Slot), fX11_settle_0 M = some res → ea_w E ids M s H locs → lv_has ls 5 [(0, .ref (E.1 100))] → W p l e (ea_rm 1 24) s m args below meth cd H locs 0 0 (MQ below (ea_Qv E ids res) args s 0 0 (ea_Ad E ids)) (F0 m 0 ls []) := by
  intro M H locs ls hf  hw hl
  replace hf := (fX11_settle_0.eq_1 ..).symm.trans hf
  refine lv_aload_n C.1 C.2.1 dX11_settle_0 rfl (lv_at hl 0 rfl) ?_
  refine gf_X11_17 C hw (hY 100 11 rfl) dX11_settle_1 ?_
  refine W.eq (g2 := F0 m 4 ls [.ref (E.1 102)]) rfl ?_
  refine lv_bipush (v := 14) C.1 C.2.1 dX11_settle_4 (by decide) ?_
  obtain ⟨M2, he1, hf⟩ := ea_cv_s hf
  refine ea_runv hw (cl_X11_185 C hw (As := [.ref (E.1 102), .int (14 : Int32)]) (rest := []) (mX11_comes (l := l) (E := E) (ids := ids) hY (show ea_ok ids 102 20 from ok_11_12 (hY 100 11 rfl)) he1) (by decide) rfl hl.1 rfl (Nat.le_of_ble_eq_true rfl) dX11_settle_6 ⟨Nat.le_refl _, Nat.le_refl _⟩) (fun H locs hw => ?_)
  refine lv_aload_n C.1 C.2.1 dX11_settle_9 rfl (lv_at hl 0 rfl) ?_
  refine gf_X11_31 C hw (hY 100 11 rfl) dX11_settle_10 ?_
  refine W.eq (g2 := F0 m 13 ls [.ref (E.1 106)]) rfl ?_
  refine lv_bipush (v := 30) C.1 C.2.1 dX11_settle_13 (by decide) ?_
  obtain ⟨M4, he3, hf⟩ := ea_cv_s hf
  refine ea_runv hw (cl_X11_185 C hw (As := [.ref (E.1 106), .int (30 : Int32)]) (rest := []) (mX11_comes (l := l) (E := E) (ids := ids) hY (show ea_ok ids 106 20 from ok_11_16 (hY 100 11 rfl)) he3) (by decide) rfl hl.1 rfl (Nat.le_of_ble_eq_true rfl) dX11_settle_15 ⟨Nat.le_refl _, Nat.le_refl _⟩) (fun H locs hw => ?_)
  refine lv_aload_n C.1 C.2.1 dX11_settle_18 rfl (lv_at hl 0 rfl) ?_
  refine gf_X11_34 C hw (hY 100 11 rfl) dX11_settle_19 ?_
  refine W.eq (g2 := F0 m 22 ls [.ref (E.1 107)]) rfl ?_
  refine lv_iconst (v := 4) C.1 C.2.1 dX11_settle_22 (by decide) ?_
  obtain ⟨M6, he5, hf⟩ := ea_cv_s hf
  refine ea_runv hw (cl_X11_185 C hw (As := [.ref (E.1 107), .int (4 : Int32)]) (rest := []) (mX11_comes (l := l) (E := E) (ids := ids) hY (show ea_ok ids 107 20 from ok_11_17 (hY 100 11 rfl)) he5) (by decide) rfl hl.1 rfl (Nat.le_of_ble_eq_true rfl) dX11_settle_23 ⟨Nat.le_refl _, Nat.le_refl _⟩) (fun H locs hw => ?_)
  refine lv_aload_n C.1 C.2.1 dX11_settle_26 rfl (lv_at hl 0 rfl) ?_
  refine gf_X11_37 C hw (hY 100 11 rfl) dX11_settle_27 ?_
  refine W.eq (g2 := F0 m 30 ls [.ref (E.1 108)]) rfl ?_
  refine lv_bipush (v := 96) C.1 C.2.1 dX11_settle_30 (by decide) ?_
  obtain ⟨M8, he7, hf⟩ := ea_cv_s hf
  refine ea_runv hw (cl_X11_185 C hw (As := [.ref (E.1 108), .int (96 : Int32)]) (rest := []) (mX11_comes (l := l) (E := E) (ids := ids) hY (show ea_ok ids 108 20 from ok_11_18 (hY 100 11 rfl)) he7) (by decide) rfl hl.1 rfl (Nat.le_of_ble_eq_true rfl) dX11_settle_32 ⟨Nat.le_refl _, Nat.le_refl _⟩) (fun H locs hw => ?_)
  refine lv_aload_n C.1 C.2.1 dX11_settle_35 rfl (lv_at hl 0 rfl) ?_
  refine gf_X11_40 C hw (hY 100 11 rfl) dX11_settle_36 ?_
  refine W.eq (g2 := F0 m 39 ls [.ref (E.1 109)]) rfl ?_
  refine lv_bipush (v := 18) C.1 C.2.1 dX11_settle_39 (by decide) ?_
  obtain ⟨M10, he9, hf⟩ := ea_cv_s hf
  refine ea_runv hw (cl_X11_185 C hw (As := [.ref (E.1 109), .int (18 : Int32)]) (rest := []) (mX11_comes (l := l) (E := E) (ids := ids) hY (show ea_ok ids 109 20 from ok_11_19 (hY 100 11 rfl)) he9) (by decide) rfl hl.1 rfl (Nat.le_of_ble_eq_true rfl) dX11_settle_41 ⟨Nat.le_refl _, Nat.le_refl _⟩) (fun H locs hw => ?_)
  refine lv_iconst (v := 0) C.1 C.2.1 dX11_settle_44 (by decide) ?_
  refine lv_istore_n (lv' := [(1, .int (0 : Int32)), (0, .ref (E.1 100))]) C.1 C.2.1 dX11_settle_45 rfl hl (by decide) rfl (fun ls hl => ?_)
  exact wX11_settle_46 C hY (wX11_settle_66 C hY) ea_N _ _ _ _ _ hf hw (lv_sub hl [1, 0] rfl)
set_option maxHeartbeats 4000000 in
set_option maxRecDepth 20000 in
theorem mX11_settle {l : Launch} {E : eE} {ids : List Nat} (hY : ea_Y ids) {M : eM} {res : eM} (hf : fX11_settle M = some res) : ea_Mv l yX11_settle cX11_settle 5 1 24 E ids [.ref (E.1 100)] M res := by
  refine ea_gov (by decide) (Nat.le_of_ble_eq_true rfl) wc_X11_settle ?_
  intro p e s m below meth cd ls C hw hl
  exact wX11_settle_0 C hY  _ _ _ _ hf hw hl
end SX11_settle

def fX11_isColour_0 (x0 : Int32) (M : eM) : Option (Int32 × eM) := ea_ci (fX11_in x0 (0 : Int32) (2 : Int32) M) (fun r2 M3 => ea_ck (ea_01 r2) (some (r2, M3)))
def fX11_isColour (x0 : Int32) (M : eM) : Option (Int32 × eM) := fX11_isColour_0 x0 M
section SX11_isColour
variable {p : Program} {l : Launch} {e : Env} {s : State} {m : MethodId} {args : Array Value} {below : List Frame} {meth : Method} {cd : Code} {E : eE} {ids : List Nat} {res : Int32 × eM}
set_option maxHeartbeats 4000000 in
set_option maxRecDepth 20000 in
theorem wX11_isColour_0 (C : ea_C p s m args meth cd cX11_isColour 1 (some .boolean) RX11) (hY : ea_Y ids) : ∀ (x0 : Int32) (M : eM) (H : Heap) (locs : List Loc) (ls : Array Slot), fX11_isColour_0 x0 M = some res → ea_w E ids M s H locs → lv_has ls 1 [(0, .int x0)] → W p l e (ea_rm 1 22) s m args below meth cd H locs 0 0 (MQ below (ea_Qi E ids res) args s 0 0 (ea_Ad E ids)) (F0 m 0 ls []) := by
  intro x0 M H locs ls hf  hw hl
  replace hf := (fX11_isColour_0.eq_1 ..).symm.trans hf
  refine lv_iload_n C.1 C.2.1 dX11_isColour_0 rfl (lv_at hl 0 rfl) ?_
  refine lv_iconst (v := 0) C.1 C.2.1 dX11_isColour_1 (by decide) ?_
  refine lv_iconst (v := 2) C.1 C.2.1 dX11_isColour_2 (by decide) ?_
  obtain ⟨r2, M3, he1, hf⟩ := ea_ci_s hf
  refine ea_runi2 hw (cl_X11_172 C hw (As := [.int x0, .int (0 : Int32), .int (2 : Int32)]) (rest := []) (mX11_in (l := l) (E := E) (ids := ids) hY he1) (by decide) rfl hl.1 rfl (Nat.le_of_ble_eq_true rfl) dX11_isColour_3 ⟨Nat.le_refl _, Nat.le_refl _⟩) (fun H locs hw => ?_)
  obtain ⟨hc4, hf⟩ := ea_ck_s hf
  exact ea_zret C hw (ea_01_s hc4) hf dX11_isColour_6
set_option maxHeartbeats 4000000 in
set_option maxRecDepth 20000 in
theorem mX11_isColour {l : Launch} {E : eE} {ids : List Nat} (hY : ea_Y ids) {x0 : Int32} {M : eM} {res : Int32 × eM} (hf : fX11_isColour x0 M = some res) : ea_Mi l yX11_isColour cX11_isColour 1 (some .boolean) 1 22 E ids [.int x0] M res := by
  refine ea_goi (by decide) (Nat.le_of_ble_eq_true rfl) wc_X11_isColour ?_
  intro p e s m below meth cd ls C hw hl
  exact wX11_isColour_0 C hY _ _ _ _ _ hf hw hl
end SX11_isColour

def fX11_isThread_0 (x1 : Int32) (M : eM) : Option (Int32 × eM) := ea_ci (fX11_in x1 (0 : Int32) ((M.1 100 22) - (1 : Int32)) M) (fun r2 M3 => ea_ck (ea_01 r2) (some (r2, M3)))
def fX11_isThread (x1 : Int32) (M : eM) : Option (Int32 × eM) := fX11_isThread_0 x1 M
section SX11_isThread
variable {p : Program} {l : Launch} {e : Env} {s : State} {m : MethodId} {args : Array Value} {below : List Frame} {meth : Method} {cd : Code} {E : eE} {ids : List Nat} {res : Int32 × eM}
set_option maxHeartbeats 4000000 in
set_option maxRecDepth 20000 in
theorem wX11_isThread_0 (C : ea_C p s m args meth cd cX11_isThread 2 (some .boolean) RX11) (hY : ea_Y ids) : ∀ (x1 : Int32) (M : eM) (H : Heap) (locs : List Loc) (ls : Array Slot), fX11_isThread_0 x1 M = some res → ea_w E ids M s H locs → lv_has ls 2 [(0, .ref (E.1 100)), (1, .int x1)] → W p l e (ea_rm 1 22) s m args below meth cd H locs 0 0 (MQ below (ea_Qi E ids res) args s 0 0 (ea_Ad E ids)) (F0 m 0 ls []) := by
  intro x1 M H locs ls hf  hw hl
  replace hf := (fX11_isThread_0.eq_1 ..).symm.trans hf
  refine lv_iload_n C.1 C.2.1 dX11_isThread_0 rfl (lv_at hl 1 rfl) ?_
  refine lv_iconst (v := 0) C.1 C.2.1 dX11_isThread_1 (by decide) ?_
  refine lv_aload_n C.1 C.2.1 dX11_isThread_2 rfl (lv_at hl 0 rfl) ?_
  refine gf_X11_189 C hw (hY 100 11 rfl) dX11_isThread_3 ?_
  refine lv_iconst (v := 1) C.1 C.2.1 dX11_isThread_6 (by decide) ?_
  refine lv_isub C.1 C.2.1 dX11_isThread_7 ?_
  obtain ⟨r2, M3, he1, hf⟩ := ea_ci_s hf
  refine ea_runi2 hw (cl_X11_172 C hw (As := [.int x1, .int (0 : Int32), .int ((M.1 100 22) - (1 : Int32))]) (rest := []) (mX11_in (l := l) (E := E) (ids := ids) hY he1) (by decide) rfl hl.1 rfl (Nat.le_of_ble_eq_true rfl) dX11_isThread_8 ⟨Nat.le_refl _, Nat.le_refl _⟩) (fun H locs hw => ?_)
  obtain ⟨hc4, hf⟩ := ea_ck_s hf
  exact ea_zret C hw (ea_01_s hc4) hf dX11_isThread_11
set_option maxHeartbeats 4000000 in
set_option maxRecDepth 20000 in
theorem mX11_isThread {l : Launch} {E : eE} {ids : List Nat} (hY : ea_Y ids) {x1 : Int32} {M : eM} {res : Int32 × eM} (hf : fX11_isThread x1 M = some res) : ea_Mi l yX11_isThread cX11_isThread 2 (some .boolean) 1 22 E ids [.ref (E.1 100), .int x1] M res := by
  refine ea_goi (by decide) (Nat.le_of_ble_eq_true rfl) wc_X11_isThread ?_
  intro p e s m below meth cd ls C hw hl
  exact wX11_isThread_0 C hY _ _ _ _ _ hf hw hl
end SX11_isThread

def fX11_colour_0 (x1 : Int32) (x2 : Int32) (x3 : Int32) (M : eM) : Option (Int32 × eM) := ea_ci (fX11_isThread x1 M) (fun r2 M3 => if r2 = 0 then (some ((-2 : Int32), M3)) else (ea_ci (fX11_areHours x2 M3) (fun r6 M7 => if r6 = 0 then (some ((-2 : Int32), M7)) else (ea_ci (fX11_isColour x3 M7) (fun r10 M11 => if r10 = 0 then (some ((-2 : Int32), M11)) else (ea_ci (fX11_colourOf x1 x2 x3 M11) (fun r14 M15 => some (r14, M15))))))))
def fX11_colour (x1 : Int32) (x2 : Int32) (x3 : Int32) (M : eM) : Option (Int32 × eM) := fX11_colour_0 x1 x2 x3 M
section SX11_colour
variable {p : Program} {l : Launch} {e : Env} {s : State} {m : MethodId} {args : Array Value} {below : List Frame} {meth : Method} {cd : Code} {E : eE} {ids : List Nat} {res : Int32 × eM}
set_option maxHeartbeats 4000000 in
set_option maxRecDepth 20000 in
theorem wX11_colour_0 (C : ea_C p s m args meth cd cX11_colour 4 (some .int) RX11) (hY : ea_Y ids) : ∀ (x1 : Int32) (x2 : Int32) (x3 : Int32) (M : eM) (H : Heap) (locs : List Loc) (ls : Array Slot), fX11_colour_0 x1 x2 x3 M = some res → ea_w E ids M s H locs → lv_has ls 4 [(0, .ref (E.1 100)), (1, .int x1), (2, .int x2), (3, .int x3)] → W p l e (ea_rm 4 91) s m args below meth cd H locs 0 0 (MQ below (ea_Qi E ids res) args s 0 0 (ea_Ad E ids)) (F0 m 0 ls []) := by
  intro x1 x2 x3 M H locs ls hf  hw hl
  replace hf := (fX11_colour_0.eq_1 ..).symm.trans hf
  refine lv_aload_n C.1 C.2.1 dX11_colour_0 rfl (lv_at hl 0 rfl) ?_
  refine lv_iload_n C.1 C.2.1 dX11_colour_1 rfl (lv_at hl 1 rfl) ?_
  obtain ⟨r2, M3, he1, hf⟩ := ea_ci_s hf
  refine ea_runi2 hw (cl_X11_251 C hw (hY 100 11 rfl) (As := [.int x1]) (rest := []) (mX11_isThread (l := l) (E := E) (ids := ids) hY he1) (by decide) rfl hl.1 rfl (Nat.le_of_ble_eq_true rfl) dX11_colour_2 ⟨Nat.le_refl _, Nat.le_refl _⟩) (fun H locs hw => ?_)
  refine lv_if_eq (tgt := 32) C.1 C.2.1 dX11_colour_5 (by decide) (fun hc4 => ?_) (fun hc4 => ?_)
  · replace hf := ea_if_t hc4 hf
    refine lv_bipush (v := (-2 : Int32)) C.1 C.2.1 dX11_colour_32 (by decide) ?_
    exact ea_iret C hw hf dX11_colour_34
  · replace hf := ea_if_f hc4 hf
    refine lv_iload_n C.1 C.2.1 dX11_colour_8 rfl (lv_at hl 2 rfl) ?_
    obtain ⟨r6, M7, he5, hf⟩ := ea_ci_s hf
    refine ea_runi2 hw (cl_X11_235 C hw (As := [.int x2]) (rest := []) (mX11_areHours (l := l) (E := E) (ids := ids) hY he5) (by decide) rfl hl.1 rfl (Nat.le_of_ble_eq_true rfl) dX11_colour_9 ⟨Nat.le_refl _, Nat.le_refl _⟩) (fun H locs hw => ?_)
    refine lv_if_eq (tgt := 32) C.1 C.2.1 dX11_colour_12 (by decide) (fun hc8 => ?_) (fun hc8 => ?_)
    · replace hf := ea_if_t hc8 hf
      refine lv_bipush (v := (-2 : Int32)) C.1 C.2.1 dX11_colour_32 (by decide) ?_
      exact ea_iret C hw hf dX11_colour_34
    · replace hf := ea_if_f hc8 hf
      refine lv_iload_n C.1 C.2.1 dX11_colour_15 rfl (lv_at hl 3 rfl) ?_
      obtain ⟨r10, M11, he9, hf⟩ := ea_ci_s hf
      refine ea_runi2 hw (cl_X11_254 C hw (As := [.int x3]) (rest := []) (mX11_isColour (l := l) (E := E) (ids := ids) hY he9) (by decide) rfl hl.1 rfl (Nat.le_of_ble_eq_true rfl) dX11_colour_16 ⟨Nat.le_refl _, Nat.le_refl _⟩) (fun H locs hw => ?_)
      refine lv_if_eq (tgt := 32) C.1 C.2.1 dX11_colour_19 (by decide) (fun hc12 => ?_) (fun hc12 => ?_)
      · replace hf := ea_if_t hc12 hf
        refine lv_bipush (v := (-2 : Int32)) C.1 C.2.1 dX11_colour_32 (by decide) ?_
        exact ea_iret C hw hf dX11_colour_34
      · replace hf := ea_if_f hc12 hf
        refine lv_aload_n C.1 C.2.1 dX11_colour_22 rfl (lv_at hl 0 rfl) ?_
        refine lv_iload_n C.1 C.2.1 dX11_colour_23 rfl (lv_at hl 1 rfl) ?_
        refine lv_iload_n C.1 C.2.1 dX11_colour_24 rfl (lv_at hl 2 rfl) ?_
        refine lv_iload_n C.1 C.2.1 dX11_colour_25 rfl (lv_at hl 3 rfl) ?_
        obtain ⟨r14, M15, he13, hf⟩ := ea_ci_s hf
        refine ea_runi2 hw (cl_X11_257 C hw (hY 100 11 rfl) (As := [.int x1, .int x2, .int x3]) (rest := []) (mX11_colourOf (l := l) (E := E) (ids := ids) hY he13) (by decide) rfl hl.1 rfl (Nat.le_of_ble_eq_true rfl) dX11_colour_26 ⟨Nat.le_refl _, Nat.le_refl _⟩) (fun H locs hw => ?_)
        refine lv_goto (tgt := 34) C.1 C.2.1 dX11_colour_29 (by decide) ?_
        exact ea_iret C hw hf dX11_colour_34
set_option maxHeartbeats 4000000 in
set_option maxRecDepth 20000 in
theorem mX11_colour {l : Launch} {E : eE} {ids : List Nat} (hY : ea_Y ids) {x1 : Int32} {x2 : Int32} {x3 : Int32} {M : eM} {res : Int32 × eM} (hf : fX11_colour x1 x2 x3 M = some res) : ea_Mi l yX11_colour cX11_colour 4 (some .int) 4 91 E ids [.ref (E.1 100), .int x1, .int x2, .int x3] M res := by
  refine ea_goi (by decide) (Nat.le_of_ble_eq_true rfl) wc_X11_colour ?_
  intro p e s m below meth cd ls C hw hl
  exact wX11_colour_0 C hY _ _ _ _ _ _ _ hf hw hl
end SX11_colour

def fX11_common_4 : Nat → Int32 → Int32 → eM → Option (Int32 × eM)
  | 0, _, _, _ => none
  | n + 1, x2, x3, M => if x3 = 0 then (some (x2, M)) else (ea_ck (ea_nz x3) (fX11_common_4 n x3 (x2 - x2 / x3 * x3) M))
def fX11_common_0 (x0 : Int32) (x1 : Int32) (M : eM) : Option (Int32 × eM) := fX11_common_4 ea_N x0 x1 M
def fX11_common (x0 : Int32) (x1 : Int32) (M : eM) : Option (Int32 × eM) := fX11_common_0 x0 x1 M
section SX11_common
variable {p : Program} {l : Launch} {e : Env} {s : State} {m : MethodId} {args : Array Value} {below : List Frame} {meth : Method} {cd : Code} {E : eE} {ids : List Nat} {res : Int32 × eM}
set_option maxHeartbeats 4000000 in
set_option maxRecDepth 20000 in
theorem wX11_common_4 (C : ea_C p s m args meth cd cX11_common 5 (some .int) RX11) (hY : ea_Y ids) : ∀ (n : Nat) (x2 : Int32) (x3 : Int32) (M : eM) (H : Heap) (locs : List Loc) (ls : Array Slot), fX11_common_4 n x2 x3 M = some res → ea_w E ids M s H locs → lv_has ls 5 [(2, .int x2), (3, .int x3)] → W p l e (ea_rm 0 0) s m args below meth cd H locs 0 0 (MQ below (ea_Qi E ids res) args s 0 0 (ea_Ad E ids)) (F0 m 4 ls []) := by
  intro n
  induction n with
  | zero => intro x2 x3 M H locs ls hf; cases hf
  | succ n ih =>
    intro x2 x3 M H locs ls hf  hw hl
    replace hf := (fX11_common_4.eq_2 ..).symm.trans hf
    refine lv_iload_n C.1 C.2.1 dX11_common_4 rfl (lv_at hl 1 rfl) ?_
    refine lv_if_eq (tgt := 21) C.1 C.2.1 dX11_common_5 (by decide) (fun hc1 => ?_) (fun hc1 => ?_)
    · replace hf := ea_if_t hc1 hf
      refine lv_iload_n C.1 C.2.1 dX11_common_21 rfl (lv_at hl 0 rfl) ?_
      exact ea_iret C hw hf dX11_common_22
    · replace hf := ea_if_f hc1 hf
      refine lv_iload_n C.1 C.2.1 dX11_common_8 rfl (lv_at hl 0 rfl) ?_
      refine lv_iload_n C.1 C.2.1 dX11_common_9 rfl (lv_at hl 1 rfl) ?_
      obtain ⟨hc2, hf⟩ := ea_ck_s hf
      refine lv_irem C.1 C.2.1 dX11_common_10 (ea_nz_s hc2) ?_
      refine lv_istore (lv' := [(4, .int (x2 - x2 / x3 * x3)), (2, .int x2), (3, .int x3)]) C.1 C.2.1 dX11_common_11 hl (by decide) rfl (fun ls hl => ?_)
      refine lv_iload_n C.1 C.2.1 dX11_common_13 rfl (lv_at hl 2 rfl) ?_
      refine lv_istore_n (lv' := [(2, .int x3), (4, .int (x2 - x2 / x3 * x3)), (3, .int x3)]) C.1 C.2.1 dX11_common_14 rfl hl (by decide) rfl (fun ls hl => ?_)
      refine lv_iload C.1 C.2.1 dX11_common_15 (lv_at hl 1 rfl) ?_
      refine lv_istore_n (lv' := [(3, .int (x2 - x2 / x3 * x3)), (2, .int x3), (4, .int (x2 - x2 / x3 * x3))]) C.1 C.2.1 dX11_common_17 rfl hl (by decide) rfl (fun ls hl => ?_)
      refine lv_goto (tgt := 4) C.1 C.2.1 dX11_common_18 (by decide) ?_
      exact ih _ _ _ _ _ _ hf hw (lv_sub hl [1, 0] rfl)
set_option maxHeartbeats 4000000 in
set_option maxRecDepth 20000 in
theorem wX11_common_0 (C : ea_C p s m args meth cd cX11_common 5 (some .int) RX11) (hY : ea_Y ids) : ∀ (x0 : Int32) (x1 : Int32) (M : eM) (H : Heap) (locs : List Loc) (ls : Array Slot), fX11_common_0 x0 x1 M = some res → ea_w E ids M s H locs → lv_has ls 5 [(0, .int x0), (1, .int x1)] → W p l e (ea_rm 0 0) s m args below meth cd H locs 0 0 (MQ below (ea_Qi E ids res) args s 0 0 (ea_Ad E ids)) (F0 m 0 ls []) := by
  intro x0 x1 M H locs ls hf  hw hl
  replace hf := (fX11_common_0.eq_1 ..).symm.trans hf
  refine lv_iload_n C.1 C.2.1 dX11_common_0 rfl (lv_at hl 0 rfl) ?_
  refine lv_istore_n (lv' := [(2, .int x0), (0, .int x0), (1, .int x1)]) C.1 C.2.1 dX11_common_1 rfl hl (by decide) rfl (fun ls hl => ?_)
  refine lv_iload_n C.1 C.2.1 dX11_common_2 rfl (lv_at hl 2 rfl) ?_
  refine lv_istore_n (lv' := [(3, .int x1), (2, .int x0), (0, .int x0), (1, .int x1)]) C.1 C.2.1 dX11_common_3 rfl hl (by decide) rfl (fun ls hl => ?_)
  exact wX11_common_4 C hY ea_N _ _ _ _ _ _ hf hw (lv_sub hl [1, 0] rfl)
set_option maxHeartbeats 4000000 in
set_option maxRecDepth 20000 in
theorem mX11_common {l : Launch} {E : eE} {ids : List Nat} (hY : ea_Y ids) {x0 : Int32} {x1 : Int32} {M : eM} {res : Int32 × eM} (hf : fX11_common x0 x1 M = some res) : ea_Mi l yX11_common cX11_common 5 (some .int) 0 0 E ids [.int x0, .int x1] M res := by
  refine ea_goi (by decide) (Nat.le_of_ble_eq_true rfl) wc_X11_common ?_
  intro p e s m below meth cd ls C hw hl
  exact wX11_common_0 C hY _ _ _ _ _ _ hf hw hl
end SX11_common

def fX11_count_0 (x1 : Int32) (M : eM) : Option (Int32 × eM) := if x1 = (0 : Int32) then (some (M.1 100 20, M)) else (if x1 = (1 : Int32) then (some (M.1 114 (0 : Int32).toNatClampNeg, M)) else (if x1 = (2 : Int32) then (some (M.1 114 (1 : Int32).toNatClampNeg, M)) else (if x1 = (3 : Int32) then (some (M.1 114 (2 : Int32).toNatClampNeg, M)) else (if x1 = (4 : Int32) then (some (M.1 100 22, M)) else (if x1 = (5 : Int32) then (some (M.1 100 1, M)) else (some ((-1 : Int32), M)))))))
def fX11_count (x1 : Int32) (M : eM) : Option (Int32 × eM) := fX11_count_0 x1 M
section SX11_count
variable {p : Program} {l : Launch} {e : Env} {s : State} {m : MethodId} {args : Array Value} {below : List Frame} {meth : Method} {cd : Code} {E : eE} {ids : List Nat} {res : Int32 × eM}
set_option maxHeartbeats 4000000 in
set_option maxRecDepth 20000 in
theorem wX11_count_0 (C : ea_C p s m args meth cd cX11_count 2 (some .int) RX11) (hY : ea_Y ids) : ∀ (x1 : Int32) (M : eM) (H : Heap) (locs : List Loc) (ls : Array Slot), fX11_count_0 x1 M = some res → ea_w E ids M s H locs → lv_has ls 2 [(0, .ref (E.1 100)), (1, .int x1)] → W p l e (ea_rm 0 0) s m args below meth cd H locs 0 0 (MQ below (ea_Qi E ids res) args s 0 0 (ea_Ad E ids)) (F0 m 0 ls []) := by
  intro x1 M H locs ls hf  hw hl
  replace hf := (fX11_count_0.eq_1 ..).symm.trans hf
  refine lv_iload_n C.1 C.2.1 dX11_count_0 rfl (lv_at hl 1 rfl) ?_
  by_cases hc1 : x1 = (0 : Int32)
  · replace hf := ea_if_t hc1 hf
    refine lv_tableIn (tgt := 40) C.1 C.2.1 dX11_count_1 (by rw [hc1]; decide) (by rw [hc1]; decide) (by rw [hc1]; rfl) (by decide) ?_
    refine lv_aload_n C.1 C.2.1 dX11_count_40 rfl (lv_at hl 0 rfl) ?_
    refine gf_X11_219 C hw (hY 100 11 rfl) dX11_count_41 ?_
    exact ea_iret C hw hf dX11_count_44
  · replace hf := ea_if_f hc1 hf
    by_cases hc2 : x1 = (1 : Int32)
    · replace hf := ea_if_t hc2 hf
      refine lv_tableIn (tgt := 45) C.1 C.2.1 dX11_count_1 (by rw [hc2]; decide) (by rw [hc2]; decide) (by rw [hc2]; rfl) (by decide) ?_
      refine lv_aload_n C.1 C.2.1 dX11_count_45 rfl (lv_at hl 0 rfl) ?_
      refine gf_X11_55 C hw (hY 100 11 rfl) dX11_count_46 ?_
      refine W.eq (g2 := F0 m 49 ls [.ref (E.1 114)]) rfl ?_
      refine lv_iconst (v := 0) C.1 C.2.1 dX11_count_49 (by decide) ?_
      refine ea_iald C hw (show ea_ok ids 114 20 from ok_11_27 (hY 100 11 rfl)) (by decide) dX11_count_50 ?_
      exact ea_iret C hw hf dX11_count_51
    · replace hf := ea_if_f hc2 hf
      by_cases hc3 : x1 = (2 : Int32)
      · replace hf := ea_if_t hc3 hf
        refine lv_tableIn (tgt := 52) C.1 C.2.1 dX11_count_1 (by rw [hc3]; decide) (by rw [hc3]; decide) (by rw [hc3]; rfl) (by decide) ?_
        refine lv_aload_n C.1 C.2.1 dX11_count_52 rfl (lv_at hl 0 rfl) ?_
        refine gf_X11_55 C hw (hY 100 11 rfl) dX11_count_53 ?_
        refine W.eq (g2 := F0 m 56 ls [.ref (E.1 114)]) rfl ?_
        refine lv_iconst (v := 1) C.1 C.2.1 dX11_count_56 (by decide) ?_
        refine ea_iald C hw (show ea_ok ids 114 20 from ok_11_27 (hY 100 11 rfl)) (by decide) dX11_count_57 ?_
        exact ea_iret C hw hf dX11_count_58
      · replace hf := ea_if_f hc3 hf
        by_cases hc4 : x1 = (3 : Int32)
        · replace hf := ea_if_t hc4 hf
          refine lv_tableIn (tgt := 59) C.1 C.2.1 dX11_count_1 (by rw [hc4]; decide) (by rw [hc4]; decide) (by rw [hc4]; rfl) (by decide) ?_
          refine lv_aload_n C.1 C.2.1 dX11_count_59 rfl (lv_at hl 0 rfl) ?_
          refine gf_X11_55 C hw (hY 100 11 rfl) dX11_count_60 ?_
          refine W.eq (g2 := F0 m 63 ls [.ref (E.1 114)]) rfl ?_
          refine lv_iconst (v := 2) C.1 C.2.1 dX11_count_63 (by decide) ?_
          refine ea_iald C hw (show ea_ok ids 114 20 from ok_11_27 (hY 100 11 rfl)) (by decide) dX11_count_64 ?_
          exact ea_iret C hw hf dX11_count_65
        · replace hf := ea_if_f hc4 hf
          by_cases hc5 : x1 = (4 : Int32)
          · replace hf := ea_if_t hc5 hf
            refine lv_tableIn (tgt := 66) C.1 C.2.1 dX11_count_1 (by rw [hc5]; decide) (by rw [hc5]; decide) (by rw [hc5]; rfl) (by decide) ?_
            refine lv_aload_n C.1 C.2.1 dX11_count_66 rfl (lv_at hl 0 rfl) ?_
            refine gf_X11_189 C hw (hY 100 11 rfl) dX11_count_67 ?_
            exact ea_iret C hw hf dX11_count_70
          · replace hf := ea_if_f hc5 hf
            by_cases hc6 : x1 = (5 : Int32)
            · replace hf := ea_if_t hc6 hf
              refine lv_tableIn (tgt := 71) C.1 C.2.1 dX11_count_1 (by rw [hc6]; decide) (by rw [hc6]; decide) (by rw [hc6]; rfl) (by decide) ?_
              refine lv_aload_n C.1 C.2.1 dX11_count_71 rfl (lv_at hl 0 rfl) ?_
              refine gf_X11_110 C hw (hY 100 11 rfl) dX11_count_72 ?_
              exact ea_iret C hw hf dX11_count_75
            · replace hf := ea_if_f hc6 hf
              refine lv_tableOut (tgt := 76) C.1 C.2.1 dX11_count_1 (by have e0 : x1.toInt ≠ 0 := fun q => hc1 (Int32.toInt_inj.mp q); have e1 : x1.toInt ≠ 1 := fun q => hc2 (Int32.toInt_inj.mp q); have e2 : x1.toInt ≠ 2 := fun q => hc3 (Int32.toInt_inj.mp q); have e3 : x1.toInt ≠ 3 := fun q => hc4 (Int32.toInt_inj.mp q); have e4 : x1.toInt ≠ 4 := fun q => hc5 (Int32.toInt_inj.mp q); have e5 : x1.toInt ≠ 5 := fun q => hc6 (Int32.toInt_inj.mp q); omega) (by decide) ?_
              refine lv_iconst (v := (-1 : Int32)) C.1 C.2.1 dX11_count_76 (by decide) ?_
              exact ea_iret C hw hf dX11_count_77
set_option maxHeartbeats 4000000 in
set_option maxRecDepth 20000 in
theorem mX11_count {l : Launch} {E : eE} {ids : List Nat} (hY : ea_Y ids) {x1 : Int32} {M : eM} {res : Int32 × eM} (hf : fX11_count x1 M = some res) : ea_Mi l yX11_count cX11_count 2 (some .int) 0 0 E ids [.ref (E.1 100), .int x1] M res := by
  refine ea_goi (by decide) (Nat.le_of_ble_eq_true rfl) wc_X11_count ?_
  intro p e s m below meth cd ls C hw hl
  exact wX11_count_0 C hY _ _ _ _ _ hf hw hl
end SX11_count

def fX11_draw_0 (x1 : Int32) (M : eM) : Option (Int32 × eM) := ea_ck (ea_nzL x1.toInt64) (some (((((ea_pL M 100 47 ((((1103515245 : Int64) * (M.2.1 100 47)) + (12345 : Int64)) - (((1103515245 : Int64) * (M.2.1 100 47)) + (12345 : Int64)) / (2147483648 : Int64) * (2147483648 : Int64))).2.1 100 47) / (65536 : Int64)) - (((ea_pL M 100 47 ((((1103515245 : Int64) * (M.2.1 100 47)) + (12345 : Int64)) - (((1103515245 : Int64) * (M.2.1 100 47)) + (12345 : Int64)) / (2147483648 : Int64) * (2147483648 : Int64))).2.1 100 47) / (65536 : Int64)) / x1.toInt64 * x1.toInt64).toInt32, ea_pL M 100 47 ((((1103515245 : Int64) * (M.2.1 100 47)) + (12345 : Int64)) - (((1103515245 : Int64) * (M.2.1 100 47)) + (12345 : Int64)) / (2147483648 : Int64) * (2147483648 : Int64))))
def fX11_draw (x1 : Int32) (M : eM) : Option (Int32 × eM) := fX11_draw_0 x1 M
section SX11_draw
variable {p : Program} {l : Launch} {e : Env} {s : State} {m : MethodId} {args : Array Value} {below : List Frame} {meth : Method} {cd : Code} {E : eE} {ids : List Nat} {res : Int32 × eM}
set_option maxHeartbeats 4000000 in
set_option maxRecDepth 20000 in
theorem wX11_draw_0 (C : ea_C p s m args meth cd cX11_draw 2 (some .int) RX11) (hY : ea_Y ids) : ∀ (x1 : Int32) (M : eM) (H : Heap) (locs : List Loc) (ls : Array Slot), fX11_draw_0 x1 M = some res → ea_w E ids M s H locs → lv_has ls 2 [(0, .ref (E.1 100)), (1, .int x1)] → W p l e (ea_rm 0 0) s m args below meth cd H locs 0 0 (MQ below (ea_Qi E ids res) args s 0 0 (ea_Ad E ids)) (F0 m 0 ls []) := by
  intro x1 M H locs ls hf  hw hl
  replace hf := (fX11_draw_0.eq_1 ..).symm.trans hf
  refine lv_aload_n C.1 C.2.1 dX11_draw_0 rfl (lv_at hl 0 rfl) ?_
  refine lv_ldc2 (v := (1103515245 : Int64)) C.1 C.2.1 C.2.2.2.1 (C.2.2.2.2.1 _ wk_RX11_359) dX11_draw_1 ?_
  refine lv_aload_n C.1 C.2.1 dX11_draw_4 rfl (lv_at hl 0 rfl) ?_
  refine gf_X11_361 C hw (hY 100 11 rfl) dX11_draw_5 ?_
  refine lv_lmul C.1 C.2.1 dX11_draw_8 ?_
  refine lv_ldc2 (v := (12345 : Int64)) C.1 C.2.1 C.2.2.2.1 (C.2.2.2.2.1 _ wk_RX11_364) dX11_draw_9 ?_
  refine lv_ladd C.1 C.2.1 dX11_draw_12 ?_
  refine lv_ldc2 (v := (2147483648 : Int64)) C.1 C.2.1 C.2.2.2.1 (C.2.2.2.2.1 _ wk_RX11_366) dX11_draw_13 ?_
  refine lv_lrem C.1 C.2.1 dX11_draw_16 (by decide) ?_
  refine pu_X11_361 C hw (hY 100 11 rfl) dX11_draw_17 (fun H locs hw => ?_)
  refine lv_aload_n C.1 C.2.1 dX11_draw_20 rfl (lv_at hl 0 rfl) ?_
  refine gf_X11_361 C hw (hY 100 11 rfl) dX11_draw_21 ?_
  refine lv_ldc2 (v := (65536 : Int64)) C.1 C.2.1 C.2.2.2.1 (C.2.2.2.2.1 _ wk_RX11_368) dX11_draw_24 ?_
  refine lv_ldiv C.1 C.2.1 dX11_draw_27 (by decide) ?_
  refine lv_iload_n C.1 C.2.1 dX11_draw_28 rfl (lv_at hl 1 rfl) ?_
  refine lv_i2l C.1 C.2.1 dX11_draw_29 rfl ?_
  obtain ⟨hc1, hf⟩ := ea_ck_s hf
  refine lv_lrem C.1 C.2.1 dX11_draw_30 (ea_nzL_s hc1) ?_
  refine lv_l2i C.1 C.2.1 dX11_draw_31 rfl ?_
  exact ea_iret C hw hf dX11_draw_32
set_option maxHeartbeats 4000000 in
set_option maxRecDepth 20000 in
theorem mX11_draw {l : Launch} {E : eE} {ids : List Nat} (hY : ea_Y ids) {x1 : Int32} {M : eM} {res : Int32 × eM} (hf : fX11_draw x1 M = some res) : ea_Mi l yX11_draw cX11_draw 2 (some .int) 0 0 E ids [.ref (E.1 100), .int x1] M res := by
  refine ea_goi (by decide) (Nat.le_of_ble_eq_true rfl) wc_X11_draw ?_
  intro p e s m below meth cd ls C hw hl
  exact wX11_draw_0 C hY _ _ _ _ _ hf hw hl
end SX11_draw

def fX11_thread_65 (k3 : Int32 → Int32 → Int32 → Int32 → Int32 → eM → Option (Int32 × eM)) (x1 : Int32) (x2 : Int32) (x3 : Int32) (x4 : Int32) (x5 : Int32) (M : eM) : Option (Int32 × eM) := k3 x1 x2 x3 x4 (x5 + (1 : Int32)) M
def fX11_thread_3 : Nat → Int32 → Int32 → Int32 → Int32 → Int32 → eM → Option (Int32 × eM)
  | 0, _, _, _, _, _, _ => none
  | n + 1, x1, x2, x3, x4, x5, M => if (M.1 100 22) ≤ x5 then (some ((-2 : Int32), M)) else (ea_ck (ea_ix x5 (ea_len 110)) (if (M.1 110 x5.toNatClampNeg) = x1 then (ea_ck (ea_ix x5 (ea_len 111)) (if (M.1 111 x5.toNatClampNeg) = x2 then (ea_ck (ea_ix x5 (ea_len 112)) (if (M.1 112 x5.toNatClampNeg) = x3 then (if x3 = (-1 : Int32) then (some (x5, M)) else (ea_ck (ea_ix x5 (ea_len 113)) (if (M.1 113 x5.toNatClampNeg) = x4 then (some (x5, M)) else (fX11_thread_65 (fX11_thread_3 n) x1 x2 x3 x4 x5 M)))) else (fX11_thread_65 (fX11_thread_3 n) x1 x2 x3 x4 x5 M))) else (fX11_thread_65 (fX11_thread_3 n) x1 x2 x3 x4 x5 M))) else (fX11_thread_65 (fX11_thread_3 n) x1 x2 x3 x4 x5 M)))
def fX11_thread_0 (x1 : Int32) (x2 : Int32) (x3 : Int32) (x4 : Int32) (M : eM) : Option (Int32 × eM) := fX11_thread_3 ea_N x1 x2 x3 x4 (0 : Int32) M
def fX11_thread (x1 : Int32) (x2 : Int32) (x3 : Int32) (x4 : Int32) (M : eM) : Option (Int32 × eM) := fX11_thread_0 x1 x2 x3 x4 M
section SX11_thread
variable {p : Program} {l : Launch} {e : Env} {s : State} {m : MethodId} {args : Array Value} {below : List Frame} {meth : Method} {cd : Code} {E : eE} {ids : List Nat} {res : Int32 × eM}
set_option maxHeartbeats 4000000 in
set_option maxRecDepth 20000 in
theorem wX11_thread_65 (C : ea_C p s m args meth cd cX11_thread 6 (some .int) RX11) (hY : ea_Y ids) {k3 : Int32 → Int32 → Int32 → Int32 → Int32 → eM → Option (Int32 × eM)} (hk3 : ∀ (x1 : Int32) (x2 : Int32) (x3 : Int32) (x4 : Int32) (x5 : Int32) (M : eM) (H : Heap) (locs : List Loc) (ls : Array Slot), k3 x1 x2 x3 x4 x5 M = some res → ea_w E ids M s H locs → lv_has ls 6 [(0, .ref (E.1 100)), (1, .int x1), (2, .int x2), (3, .int x3), (4, .int x4), (5, .int x5)] → W p l e (ea_rm 0 0) s m args below meth cd H locs 0 0 (MQ below (ea_Qi E ids res) args s 0 0 (ea_Ad E ids)) (F0 m 3 ls [])) : ∀ (x1 : Int32) (x2 : Int32) (x3 : Int32) (x4 : Int32) (x5 : Int32) (M : eM) (H : Heap) (locs : List Loc) (ls : Array Slot), fX11_thread_65 k3 x1 x2 x3 x4 x5 M = some res → ea_w E ids M s H locs → lv_has ls 6 [(0, .ref (E.1 100)), (1, .int x1), (2, .int x2), (3, .int x3), (4, .int x4), (5, .int x5)] → W p l e (ea_rm 0 0) s m args below meth cd H locs 0 0 (MQ below (ea_Qi E ids res) args s 0 0 (ea_Ad E ids)) (F0 m 65 ls []) := by
  intro x1 x2 x3 x4 x5 M H locs ls hf  hw hl
  replace hf := (fX11_thread_65.eq_1 ..).symm.trans hf
  refine lv_iinc (v := x5 + (1 : Int32)) (lv' := [(5, .int (x5 + (1 : Int32))), (0, .ref (E.1 100)), (1, .int x1), (2, .int x2), (3, .int x3), (4, .int x4)]) C.1 C.2.1 dX11_thread_65 hl (k := 5) rfl rfl (by decide) rfl (fun ls hl => ?_)
  refine lv_goto (tgt := 3) C.1 C.2.1 dX11_thread_68 (by decide) ?_
  exact hk3 _ _ _ _ _ _ _ _ _ hf hw (lv_sub hl [1, 2, 3, 4, 5, 0] rfl)
set_option maxHeartbeats 4000000 in
set_option maxRecDepth 20000 in
theorem wX11_thread_3 (C : ea_C p s m args meth cd cX11_thread 6 (some .int) RX11) (hY : ea_Y ids) : ∀ (n : Nat) (x1 : Int32) (x2 : Int32) (x3 : Int32) (x4 : Int32) (x5 : Int32) (M : eM) (H : Heap) (locs : List Loc) (ls : Array Slot), fX11_thread_3 n x1 x2 x3 x4 x5 M = some res → ea_w E ids M s H locs → lv_has ls 6 [(0, .ref (E.1 100)), (1, .int x1), (2, .int x2), (3, .int x3), (4, .int x4), (5, .int x5)] → W p l e (ea_rm 0 0) s m args below meth cd H locs 0 0 (MQ below (ea_Qi E ids res) args s 0 0 (ea_Ad E ids)) (F0 m 3 ls []) := by
  intro n
  induction n with
  | zero => intro x1 x2 x3 x4 x5 M H locs ls hf; cases hf
  | succ n ih =>
    intro x1 x2 x3 x4 x5 M H locs ls hf  hw hl
    replace hf := (fX11_thread_3.eq_2 ..).symm.trans hf
    refine lv_iload C.1 C.2.1 dX11_thread_3 (lv_at hl 5 rfl) ?_
    refine lv_aload_n C.1 C.2.1 dX11_thread_5 rfl (lv_at hl 0 rfl) ?_
    refine gf_X11_189 C hw (hY 100 11 rfl) dX11_thread_6 ?_
    refine lv_icmp_ge (tgt := 71) C.1 C.2.1 dX11_thread_9 (by decide) (fun hc1 => ?_) (fun hc1 => ?_)
    · replace hf := ea_if_t hc1 hf
      refine lv_bipush (v := (-2 : Int32)) C.1 C.2.1 dX11_thread_71 (by decide) ?_
      exact ea_iret C hw hf dX11_thread_73
    · replace hf := ea_if_f hc1 hf
      refine lv_aload_n C.1 C.2.1 dX11_thread_12 rfl (lv_at hl 0 rfl) ?_
      refine gf_X11_43 C hw (hY 100 11 rfl) dX11_thread_13 ?_
      refine W.eq (g2 := F0 m 16 ls [.ref (E.1 110)]) rfl ?_
      refine lv_iload C.1 C.2.1 dX11_thread_16 (lv_at hl 5 rfl) ?_
      obtain ⟨hc2, hf⟩ := ea_ck_s hf
      refine ea_iald C hw (show ea_ok ids 110 20 from ok_11_23 (hY 100 11 rfl)) hc2 dX11_thread_18 ?_
      refine lv_iload_n C.1 C.2.1 dX11_thread_19 rfl (lv_at hl 1 rfl) ?_
      refine lv_icmp_ne (tgt := 65) C.1 C.2.1 dX11_thread_20 (by decide) (fun hc3 => ?_) (fun hc3 => ?_)
      · replace hf := ea_if_f hc3 hf
        exact wX11_thread_65 C hY ih _ _ _ _ _ _ _ _ _ hf hw (lv_sub hl [0, 1, 2, 3, 4, 5] rfl)
      · replace hf := ea_if_t hc3 hf
        refine lv_aload_n C.1 C.2.1 dX11_thread_23 rfl (lv_at hl 0 rfl) ?_
        refine gf_X11_46 C hw (hY 100 11 rfl) dX11_thread_24 ?_
        refine W.eq (g2 := F0 m 27 ls [.ref (E.1 111)]) rfl ?_
        refine lv_iload C.1 C.2.1 dX11_thread_27 (lv_at hl 5 rfl) ?_
        obtain ⟨hc4, hf⟩ := ea_ck_s hf
        refine ea_iald C hw (show ea_ok ids 111 20 from ok_11_24 (hY 100 11 rfl)) hc4 dX11_thread_29 ?_
        refine lv_iload_n C.1 C.2.1 dX11_thread_30 rfl (lv_at hl 2 rfl) ?_
        refine lv_icmp_ne (tgt := 65) C.1 C.2.1 dX11_thread_31 (by decide) (fun hc5 => ?_) (fun hc5 => ?_)
        · replace hf := ea_if_f hc5 hf
          exact wX11_thread_65 C hY ih _ _ _ _ _ _ _ _ _ hf hw (lv_sub hl [0, 1, 2, 3, 4, 5] rfl)
        · replace hf := ea_if_t hc5 hf
          refine lv_aload_n C.1 C.2.1 dX11_thread_34 rfl (lv_at hl 0 rfl) ?_
          refine gf_X11_49 C hw (hY 100 11 rfl) dX11_thread_35 ?_
          refine W.eq (g2 := F0 m 38 ls [.ref (E.1 112)]) rfl ?_
          refine lv_iload C.1 C.2.1 dX11_thread_38 (lv_at hl 5 rfl) ?_
          obtain ⟨hc6, hf⟩ := ea_ck_s hf
          refine ea_iald C hw (show ea_ok ids 112 20 from ok_11_25 (hY 100 11 rfl)) hc6 dX11_thread_40 ?_
          refine lv_iload_n C.1 C.2.1 dX11_thread_41 rfl (lv_at hl 3 rfl) ?_
          refine lv_icmp_ne (tgt := 65) C.1 C.2.1 dX11_thread_42 (by decide) (fun hc7 => ?_) (fun hc7 => ?_)
          · replace hf := ea_if_f hc7 hf
            exact wX11_thread_65 C hY ih _ _ _ _ _ _ _ _ _ hf hw (lv_sub hl [0, 1, 2, 3, 4, 5] rfl)
          · replace hf := ea_if_t hc7 hf
            refine lv_iload_n C.1 C.2.1 dX11_thread_45 rfl (lv_at hl 3 rfl) ?_
            refine lv_iconst (v := (-1 : Int32)) C.1 C.2.1 dX11_thread_46 (by decide) ?_
            refine lv_icmp_eq (tgt := 62) C.1 C.2.1 dX11_thread_47 (by decide) (fun hc8 => ?_) (fun hc8 => ?_)
            · replace hf := ea_if_t hc8 hf
              refine lv_iload C.1 C.2.1 dX11_thread_62 (lv_at hl 5 rfl) ?_
              exact ea_iret C hw hf dX11_thread_64
            · replace hf := ea_if_f hc8 hf
              refine lv_aload_n C.1 C.2.1 dX11_thread_50 rfl (lv_at hl 0 rfl) ?_
              refine gf_X11_52 C hw (hY 100 11 rfl) dX11_thread_51 ?_
              refine W.eq (g2 := F0 m 54 ls [.ref (E.1 113)]) rfl ?_
              refine lv_iload C.1 C.2.1 dX11_thread_54 (lv_at hl 5 rfl) ?_
              obtain ⟨hc9, hf⟩ := ea_ck_s hf
              refine ea_iald C hw (show ea_ok ids 113 20 from ok_11_26 (hY 100 11 rfl)) hc9 dX11_thread_56 ?_
              refine lv_iload C.1 C.2.1 dX11_thread_57 (lv_at hl 4 rfl) ?_
              refine lv_icmp_ne (tgt := 65) C.1 C.2.1 dX11_thread_59 (by decide) (fun hc10 => ?_) (fun hc10 => ?_)
              · replace hf := ea_if_f hc10 hf
                exact wX11_thread_65 C hY ih _ _ _ _ _ _ _ _ _ hf hw (lv_sub hl [0, 1, 2, 3, 4, 5] rfl)
              · replace hf := ea_if_t hc10 hf
                refine lv_iload C.1 C.2.1 dX11_thread_62 (lv_at hl 5 rfl) ?_
                exact ea_iret C hw hf dX11_thread_64
set_option maxHeartbeats 4000000 in
set_option maxRecDepth 20000 in
theorem wX11_thread_0 (C : ea_C p s m args meth cd cX11_thread 6 (some .int) RX11) (hY : ea_Y ids) : ∀ (x1 : Int32) (x2 : Int32) (x3 : Int32) (x4 : Int32) (M : eM) (H : Heap) (locs : List Loc) (ls : Array Slot), fX11_thread_0 x1 x2 x3 x4 M = some res → ea_w E ids M s H locs → lv_has ls 6 [(0, .ref (E.1 100)), (1, .int x1), (2, .int x2), (3, .int x3), (4, .int x4)] → W p l e (ea_rm 0 0) s m args below meth cd H locs 0 0 (MQ below (ea_Qi E ids res) args s 0 0 (ea_Ad E ids)) (F0 m 0 ls []) := by
  intro x1 x2 x3 x4 M H locs ls hf  hw hl
  replace hf := (fX11_thread_0.eq_1 ..).symm.trans hf
  refine lv_iconst (v := 0) C.1 C.2.1 dX11_thread_0 (by decide) ?_
  refine lv_istore (lv' := [(5, .int (0 : Int32)), (0, .ref (E.1 100)), (1, .int x1), (2, .int x2), (3, .int x3), (4, .int x4)]) C.1 C.2.1 dX11_thread_1 hl (by decide) rfl (fun ls hl => ?_)
  exact wX11_thread_3 C hY ea_N _ _ _ _ _ _ _ _ _ hf hw (lv_sub hl [1, 2, 3, 4, 5, 0] rfl)
set_option maxHeartbeats 4000000 in
set_option maxRecDepth 20000 in
theorem mX11_thread {l : Launch} {E : eE} {ids : List Nat} (hY : ea_Y ids) {x1 : Int32} {x2 : Int32} {x3 : Int32} {x4 : Int32} {M : eM} {res : Int32 × eM} (hf : fX11_thread x1 x2 x3 x4 M = some res) : ea_Mi l yX11_thread cX11_thread 6 (some .int) 0 0 E ids [.ref (E.1 100), .int x1, .int x2, .int x3, .int x4] M res := by
  refine ea_goi (by decide) (Nat.le_of_ble_eq_true rfl) wc_X11_thread ?_
  intro p e s m below meth cd ls C hw hl
  exact wX11_thread_0 C hY _ _ _ _ _ _ _ _ hf hw hl
end SX11_thread

def fX11_drawThread_48 (x1 : Int32) (x2 : Int32) (M : eM) : Option (Int32 × eM) := ea_ci (fX11_thread x1 x2 (-1 : Int32) (0 : Int32) M) (fun r2 M3 => some (r2, M3))
def fX11_drawThread_82 (x1 : Int32) (x2 : Int32) (t0 : Int32) (M : eM) : Option (Int32 × eM) := ea_ci (fX11_draw (9 : Int32) M) (fun r2 M3 => if t0 ≤ x1 then (ea_ci (fX11_thread t0 ((1 : Int32) + r2) x1 x2 M3) (fun r6 M7 => some (r6, M7))) else (ea_ci (fX11_thread x1 x2 t0 ((1 : Int32) + r2) M3) (fun r9 M10 => some (r9, M10))))
def fX11_drawThread_0 (M : eM) : Option (Int32 × eM) := ea_ci (fX11_draw (M.1 102 (4 : Int32).toNatClampNeg) M) (fun r2 M3 => ea_ci (fX11_draw (9 : Int32) M3) (fun r5 M6 => ea_ci (fX11_draw (3 : Int32) M6) (fun r8 M9 => if r8 = 0 then (if (M9.1 102 (4 : Int32).toNatClampNeg) < (2 : Int32) then (fX11_drawThread_48 r2 ((1 : Int32) + r5) M9) else (if (2 : Int32) ≤ (M9.1 102 (3 : Int32).toNatClampNeg) then (ea_ci (fX11_draw ((M9.1 102 (4 : Int32).toNatClampNeg) - (1 : Int32)) M9) (fun r14 M15 => if r14 < r2 then (fX11_drawThread_82 r2 ((1 : Int32) + r5) r14 M15) else (fX11_drawThread_82 r2 ((1 : Int32) + r5) (r14 + (1 : Int32)) M15))) else (fX11_drawThread_48 r2 ((1 : Int32) + r5) M9))) else (fX11_drawThread_48 r2 ((1 : Int32) + r5) M9))))
def fX11_drawThread (M : eM) : Option (Int32 × eM) := fX11_drawThread_0 M
section SX11_drawThread
variable {p : Program} {l : Launch} {e : Env} {s : State} {m : MethodId} {args : Array Value} {below : List Frame} {meth : Method} {cd : Code} {E : eE} {ids : List Nat} {res : Int32 × eM}
set_option maxHeartbeats 4000000 in
set_option maxRecDepth 20000 in
theorem wX11_drawThread_48 (C : ea_C p s m args meth cd cX11_drawThread 5 (some .int) RX11) (hY : ea_Y ids) : ∀ (x1 : Int32) (x2 : Int32) (M : eM) (H : Heap) (locs : List Loc) (ls : Array Slot), fX11_drawThread_48 x1 x2 M = some res → ea_w E ids M s H locs → lv_has ls 5 [(0, .ref (E.1 100)), (1, .int x1), (2, .int x2)] → W p l e (ea_rm 1 25) s m args below meth cd H locs 0 0 (MQ below (ea_Qi E ids res) args s 0 0 (ea_Ad E ids)) (F0 m 48 ls []) := by
  intro x1 x2 M H locs ls hf  hw hl
  replace hf := (fX11_drawThread_48.eq_1 ..).symm.trans hf
  refine lv_aload_n C.1 C.2.1 dX11_drawThread_48 rfl (lv_at hl 0 rfl) ?_
  refine lv_iload_n C.1 C.2.1 dX11_drawThread_49 rfl (lv_at hl 1 rfl) ?_
  refine lv_iload_n C.1 C.2.1 dX11_drawThread_50 rfl (lv_at hl 2 rfl) ?_
  refine lv_iconst (v := (-1 : Int32)) C.1 C.2.1 dX11_drawThread_51 (by decide) ?_
  refine lv_iconst (v := 0) C.1 C.2.1 dX11_drawThread_52 (by decide) ?_
  obtain ⟨r2, M3, he1, hf⟩ := ea_ci_s hf
  refine ea_runi2 hw (cl_X11_373 C hw (hY 100 11 rfl) (As := [.int x1, .int x2, .int (-1 : Int32), .int (0 : Int32)]) (rest := []) (mX11_thread (l := l) (E := E) (ids := ids) hY he1) (by decide) rfl hl.1 rfl (Nat.le_of_ble_eq_true rfl) dX11_drawThread_53 ⟨Nat.le_refl _, Nat.le_refl _⟩) (fun H locs hw => ?_)
  exact ea_iret C hw hf dX11_drawThread_56
set_option maxHeartbeats 4000000 in
set_option maxRecDepth 20000 in
theorem wX11_drawThread_82 (C : ea_C p s m args meth cd cX11_drawThread 5 (some .int) RX11) (hY : ea_Y ids) : ∀ (x1 : Int32) (x2 : Int32) (t0 : Int32) (M : eM) (H : Heap) (locs : List Loc) (ls : Array Slot), fX11_drawThread_82 x1 x2 t0 M = some res → ea_w E ids M s H locs → lv_has ls 5 [(0, .ref (E.1 100)), (1, .int x1), (2, .int x2)] → W p l e (ea_rm 1 25) s m args below meth cd H locs 0 0 (MQ below (ea_Qi E ids res) args s 0 0 (ea_Ad E ids)) (F0 m 82 ls [.int t0]) := by
  intro x1 x2 t0 M H locs ls hf  hw hl
  replace hf := (fX11_drawThread_82.eq_1 ..).symm.trans hf
  refine lv_istore_n (lv' := [(3, .int t0), (0, .ref (E.1 100)), (1, .int x1), (2, .int x2)]) C.1 C.2.1 dX11_drawThread_82 rfl hl (by decide) rfl (fun ls hl => ?_)
  refine lv_iconst (v := 1) C.1 C.2.1 dX11_drawThread_83 (by decide) ?_
  refine lv_aload_n C.1 C.2.1 dX11_drawThread_84 rfl (lv_at hl 1 rfl) ?_
  refine lv_bipush (v := 9) C.1 C.2.1 dX11_drawThread_85 (by decide) ?_
  obtain ⟨r2, M3, he1, hf⟩ := ea_ci_s hf
  refine ea_runi2 hw (cl_X11_370 C hw (hY 100 11 rfl) (As := [.int (9 : Int32)]) (rest := [.int (1 : Int32)]) (mX11_draw (l := l) (E := E) (ids := ids) hY he1) (by decide) rfl hl.1 rfl (Nat.le_of_ble_eq_true rfl) dX11_drawThread_87 ⟨Nat.le_refl _, Nat.le_refl _⟩) (fun H locs hw => ?_)
  refine lv_iadd C.1 C.2.1 dX11_drawThread_90 ?_
  refine lv_istore (lv' := [(4, .int ((1 : Int32) + r2)), (3, .int t0), (0, .ref (E.1 100)), (1, .int x1), (2, .int x2)]) C.1 C.2.1 dX11_drawThread_91 hl (by decide) rfl (fun ls hl => ?_)
  refine lv_iload_n C.1 C.2.1 dX11_drawThread_93 rfl (lv_at hl 3 rfl) ?_
  refine lv_iload_n C.1 C.2.1 dX11_drawThread_94 rfl (lv_at hl 1 rfl) ?_
  refine lv_icmp_ge (tgt := 110) C.1 C.2.1 dX11_drawThread_95 (by decide) (fun hc4 => ?_) (fun hc4 => ?_)
  · replace hf := ea_if_t hc4 hf
    refine lv_aload_n C.1 C.2.1 dX11_drawThread_110 rfl (lv_at hl 2 rfl) ?_
    refine lv_iload_n C.1 C.2.1 dX11_drawThread_111 rfl (lv_at hl 1 rfl) ?_
    refine lv_iload C.1 C.2.1 dX11_drawThread_112 (lv_at hl 0 rfl) ?_
    refine lv_iload_n C.1 C.2.1 dX11_drawThread_114 rfl (lv_at hl 3 rfl) ?_
    refine lv_iload_n C.1 C.2.1 dX11_drawThread_115 rfl (lv_at hl 4 rfl) ?_
    obtain ⟨r6, M7, he5, hf⟩ := ea_ci_s hf
    refine ea_runi2 hw (cl_X11_373 C hw (hY 100 11 rfl) (As := [.int t0, .int ((1 : Int32) + r2), .int x1, .int x2]) (rest := []) (mX11_thread (l := l) (E := E) (ids := ids) hY he5) (by decide) rfl hl.1 rfl (Nat.le_of_ble_eq_true rfl) dX11_drawThread_116 ⟨Nat.le_refl _, Nat.le_refl _⟩) (fun H locs hw => ?_)
    exact ea_iret C hw hf dX11_drawThread_119
  · replace hf := ea_if_f hc4 hf
    refine lv_aload_n C.1 C.2.1 dX11_drawThread_98 rfl (lv_at hl 2 rfl) ?_
    refine lv_iload_n C.1 C.2.1 dX11_drawThread_99 rfl (lv_at hl 3 rfl) ?_
    refine lv_iload_n C.1 C.2.1 dX11_drawThread_100 rfl (lv_at hl 4 rfl) ?_
    refine lv_iload_n C.1 C.2.1 dX11_drawThread_101 rfl (lv_at hl 1 rfl) ?_
    refine lv_iload C.1 C.2.1 dX11_drawThread_102 (lv_at hl 0 rfl) ?_
    obtain ⟨r9, M10, he8, hf⟩ := ea_ci_s hf
    refine ea_runi2 hw (cl_X11_373 C hw (hY 100 11 rfl) (As := [.int x1, .int x2, .int t0, .int ((1 : Int32) + r2)]) (rest := []) (mX11_thread (l := l) (E := E) (ids := ids) hY he8) (by decide) rfl hl.1 rfl (Nat.le_of_ble_eq_true rfl) dX11_drawThread_104 ⟨Nat.le_refl _, Nat.le_refl _⟩) (fun H locs hw => ?_)
    refine lv_goto (tgt := 119) C.1 C.2.1 dX11_drawThread_107 (by decide) ?_
    exact ea_iret C hw hf dX11_drawThread_119
set_option maxHeartbeats 4000000 in
set_option maxRecDepth 20000 in
theorem wX11_drawThread_0 (C : ea_C p s m args meth cd cX11_drawThread 5 (some .int) RX11) (hY : ea_Y ids) : ∀  (M : eM) (H : Heap) (locs : List Loc) (ls : Array Slot), fX11_drawThread_0 M = some res → ea_w E ids M s H locs → lv_has ls 5 [(0, .ref (E.1 100))] → W p l e (ea_rm 1 25) s m args below meth cd H locs 0 0 (MQ below (ea_Qi E ids res) args s 0 0 (ea_Ad E ids)) (F0 m 0 ls []) := by
  intro M H locs ls hf  hw hl
  replace hf := (fX11_drawThread_0.eq_1 ..).symm.trans hf
  refine lv_aload_n C.1 C.2.1 dX11_drawThread_0 rfl (lv_at hl 0 rfl) ?_
  refine lv_aload_n C.1 C.2.1 dX11_drawThread_1 rfl (lv_at hl 0 rfl) ?_
  refine gf_X11_17 C hw (hY 100 11 rfl) dX11_drawThread_2 ?_
  refine W.eq (g2 := F0 m 5 ls [.ref (E.1 102), .ref (E.1 100)]) rfl ?_
  refine lv_iconst (v := 4) C.1 C.2.1 dX11_drawThread_5 (by decide) ?_
  refine ea_iald C hw (show ea_ok ids 102 20 from ok_11_12 (hY 100 11 rfl)) (by decide) dX11_drawThread_6 ?_
  obtain ⟨r2, M3, he1, hf⟩ := ea_ci_s hf
  refine ea_runi2 hw (cl_X11_370 C hw (hY 100 11 rfl) (As := [.int (M.1 102 (4 : Int32).toNatClampNeg)]) (rest := []) (mX11_draw (l := l) (E := E) (ids := ids) hY he1) (by decide) rfl hl.1 rfl (Nat.le_of_ble_eq_true rfl) dX11_drawThread_7 ⟨Nat.le_refl _, Nat.le_refl _⟩) (fun H locs hw => ?_)
  refine lv_istore_n (lv' := [(1, .int r2), (0, .ref (E.1 100))]) C.1 C.2.1 dX11_drawThread_10 rfl hl (by decide) rfl (fun ls hl => ?_)
  refine lv_iconst (v := 1) C.1 C.2.1 dX11_drawThread_11 (by decide) ?_
  refine lv_aload_n C.1 C.2.1 dX11_drawThread_12 rfl (lv_at hl 1 rfl) ?_
  refine lv_bipush (v := 9) C.1 C.2.1 dX11_drawThread_13 (by decide) ?_
  obtain ⟨r5, M6, he4, hf⟩ := ea_ci_s hf
  refine ea_runi2 hw (cl_X11_370 C hw (hY 100 11 rfl) (As := [.int (9 : Int32)]) (rest := [.int (1 : Int32)]) (mX11_draw (l := l) (E := E) (ids := ids) hY he4) (by decide) rfl hl.1 rfl (Nat.le_of_ble_eq_true rfl) dX11_drawThread_15 ⟨Nat.le_refl _, Nat.le_refl _⟩) (fun H locs hw => ?_)
  refine lv_iadd C.1 C.2.1 dX11_drawThread_18 ?_
  refine lv_istore_n (lv' := [(2, .int ((1 : Int32) + r5)), (1, .int r2), (0, .ref (E.1 100))]) C.1 C.2.1 dX11_drawThread_19 rfl hl (by decide) rfl (fun ls hl => ?_)
  refine lv_aload_n C.1 C.2.1 dX11_drawThread_20 rfl (lv_at hl 2 rfl) ?_
  refine lv_iconst (v := 3) C.1 C.2.1 dX11_drawThread_21 (by decide) ?_
  obtain ⟨r8, M9, he7, hf⟩ := ea_ci_s hf
  refine ea_runi2 hw (cl_X11_370 C hw (hY 100 11 rfl) (As := [.int (3 : Int32)]) (rest := []) (mX11_draw (l := l) (E := E) (ids := ids) hY he7) (by decide) rfl hl.1 rfl (Nat.le_of_ble_eq_true rfl) dX11_drawThread_22 ⟨Nat.le_refl _, Nat.le_refl _⟩) (fun H locs hw => ?_)
  refine lv_if_ne (tgt := 48) C.1 C.2.1 dX11_drawThread_25 (by decide) (fun hc10 => ?_) (fun hc10 => ?_)
  · replace hf := ea_if_f hc10 hf
    exact wX11_drawThread_48 C hY _ _ _ _ _ _ hf hw (lv_sub hl [2, 1, 0] rfl)
  · replace hf := ea_if_t hc10 hf
    refine lv_aload_n C.1 C.2.1 dX11_drawThread_28 rfl (lv_at hl 2 rfl) ?_
    refine gf_X11_17 C hw (hY 100 11 rfl) dX11_drawThread_29 ?_
    refine W.eq (g2 := F0 m 32 ls [.ref (E.1 102)]) rfl ?_
    refine lv_iconst (v := 4) C.1 C.2.1 dX11_drawThread_32 (by decide) ?_
    refine ea_iald C hw (show ea_ok ids 102 20 from ok_11_12 (hY 100 11 rfl)) (by decide) dX11_drawThread_33 ?_
    refine lv_iconst (v := 2) C.1 C.2.1 dX11_drawThread_34 (by decide) ?_
    refine lv_icmp_lt (tgt := 48) C.1 C.2.1 dX11_drawThread_35 (by decide) (fun hc11 => ?_) (fun hc11 => ?_)
    · replace hf := ea_if_t hc11 hf
      exact wX11_drawThread_48 C hY _ _ _ _ _ _ hf hw (lv_sub hl [2, 1, 0] rfl)
    · replace hf := ea_if_f hc11 hf
      refine lv_aload_n C.1 C.2.1 dX11_drawThread_38 rfl (lv_at hl 2 rfl) ?_
      refine gf_X11_17 C hw (hY 100 11 rfl) dX11_drawThread_39 ?_
      refine W.eq (g2 := F0 m 42 ls [.ref (E.1 102)]) rfl ?_
      refine lv_iconst (v := 3) C.1 C.2.1 dX11_drawThread_42 (by decide) ?_
      refine ea_iald C hw (show ea_ok ids 102 20 from ok_11_12 (hY 100 11 rfl)) (by decide) dX11_drawThread_43 ?_
      refine lv_iconst (v := 2) C.1 C.2.1 dX11_drawThread_44 (by decide) ?_
      refine lv_icmp_ge (tgt := 57) C.1 C.2.1 dX11_drawThread_45 (by decide) (fun hc12 => ?_) (fun hc12 => ?_)
      · replace hf := ea_if_t hc12 hf
        refine lv_aload_n C.1 C.2.1 dX11_drawThread_57 rfl (lv_at hl 2 rfl) ?_
        refine lv_aload_n C.1 C.2.1 dX11_drawThread_58 rfl (lv_at hl 2 rfl) ?_
        refine gf_X11_17 C hw (hY 100 11 rfl) dX11_drawThread_59 ?_
        refine W.eq (g2 := F0 m 62 ls [.ref (E.1 102), .ref (E.1 100)]) rfl ?_
        refine lv_iconst (v := 4) C.1 C.2.1 dX11_drawThread_62 (by decide) ?_
        refine ea_iald C hw (show ea_ok ids 102 20 from ok_11_12 (hY 100 11 rfl)) (by decide) dX11_drawThread_63 ?_
        refine lv_iconst (v := 1) C.1 C.2.1 dX11_drawThread_64 (by decide) ?_
        refine lv_isub C.1 C.2.1 dX11_drawThread_65 ?_
        obtain ⟨r14, M15, he13, hf⟩ := ea_ci_s hf
        refine ea_runi2 hw (cl_X11_370 C hw (hY 100 11 rfl) (As := [.int ((M9.1 102 (4 : Int32).toNatClampNeg) - (1 : Int32))]) (rest := []) (mX11_draw (l := l) (E := E) (ids := ids) hY he13) (by decide) rfl hl.1 rfl (Nat.le_of_ble_eq_true rfl) dX11_drawThread_66 ⟨Nat.le_refl _, Nat.le_refl _⟩) (fun H locs hw => ?_)
        refine lv_istore_n (lv' := [(3, .int r14), (2, .int ((1 : Int32) + r5)), (1, .int r2), (0, .ref (E.1 100))]) C.1 C.2.1 dX11_drawThread_69 rfl hl (by decide) rfl (fun ls hl => ?_)
        refine lv_iload_n C.1 C.2.1 dX11_drawThread_70 rfl (lv_at hl 0 rfl) ?_
        refine lv_iload_n C.1 C.2.1 dX11_drawThread_71 rfl (lv_at hl 2 rfl) ?_
        refine lv_icmp_lt (tgt := 81) C.1 C.2.1 dX11_drawThread_72 (by decide) (fun hc16 => ?_) (fun hc16 => ?_)
        · replace hf := ea_if_t hc16 hf
          refine lv_iload_n C.1 C.2.1 dX11_drawThread_81 rfl (lv_at hl 0 rfl) ?_
          exact wX11_drawThread_82 C hY _ _ _ _ _ _ _ hf hw (lv_sub hl [3, 2, 1] rfl)
        · replace hf := ea_if_f hc16 hf
          refine lv_iload_n C.1 C.2.1 dX11_drawThread_75 rfl (lv_at hl 0 rfl) ?_
          refine lv_iconst (v := 1) C.1 C.2.1 dX11_drawThread_76 (by decide) ?_
          refine lv_iadd C.1 C.2.1 dX11_drawThread_77 ?_
          refine lv_goto (tgt := 82) C.1 C.2.1 dX11_drawThread_78 (by decide) ?_
          exact wX11_drawThread_82 C hY _ _ _ _ _ _ _ hf hw (lv_sub hl [3, 2, 1] rfl)
      · replace hf := ea_if_f hc12 hf
        exact wX11_drawThread_48 C hY _ _ _ _ _ _ hf hw (lv_sub hl [2, 1, 0] rfl)
set_option maxHeartbeats 4000000 in
set_option maxRecDepth 20000 in
theorem mX11_drawThread {l : Launch} {E : eE} {ids : List Nat} (hY : ea_Y ids) {M : eM} {res : Int32 × eM} (hf : fX11_drawThread M = some res) : ea_Mi l yX11_drawThread cX11_drawThread 5 (some .int) 1 25 E ids [.ref (E.1 100)] M res := by
  refine ea_goi (by decide) (Nat.le_of_ble_eq_true rfl) wc_X11_drawThread ?_
  intro p e s m below meth cd ls C hw hl
  exact wX11_drawThread_0 C hY  _ _ _ _ hf hw hl
end SX11_drawThread

def fX11_end_0 (x1 : Int32) (M : eM) : Option (Int32 × eM) := if x1 < 0 then (some ((-1 : Int32), M)) else (if x1 ≤ (M.1 100 1) then (some (x1, ea_pI M 100 1 x1)) else (some ((-1 : Int32), M)))
def fX11_end (x1 : Int32) (M : eM) : Option (Int32 × eM) := fX11_end_0 x1 M
section SX11_end
variable {p : Program} {l : Launch} {e : Env} {s : State} {m : MethodId} {args : Array Value} {below : List Frame} {meth : Method} {cd : Code} {E : eE} {ids : List Nat} {res : Int32 × eM}
set_option maxHeartbeats 4000000 in
set_option maxRecDepth 20000 in
theorem wX11_end_0 (C : ea_C p s m args meth cd cX11_end 2 (some .int) RX11) (hY : ea_Y ids) : ∀ (x1 : Int32) (M : eM) (H : Heap) (locs : List Loc) (ls : Array Slot), fX11_end_0 x1 M = some res → ea_w E ids M s H locs → lv_has ls 2 [(0, .ref (E.1 100)), (1, .int x1)] → W p l e (ea_rm 0 0) s m args below meth cd H locs 0 0 (MQ below (ea_Qi E ids res) args s 0 0 (ea_Ad E ids)) (F0 m 0 ls []) := by
  intro x1 M H locs ls hf  hw hl
  replace hf := (fX11_end_0.eq_1 ..).symm.trans hf
  refine lv_iload_n C.1 C.2.1 dX11_end_0 rfl (lv_at hl 1 rfl) ?_
  refine lv_if_lt (tgt := 12) C.1 C.2.1 dX11_end_1 (by decide) (fun hc1 => ?_) (fun hc1 => ?_)
  · replace hf := ea_if_t hc1 hf
    refine lv_iconst (v := (-1 : Int32)) C.1 C.2.1 dX11_end_12 (by decide) ?_
    exact ea_iret C hw hf dX11_end_13
  · replace hf := ea_if_f hc1 hf
    refine lv_iload_n C.1 C.2.1 dX11_end_4 rfl (lv_at hl 1 rfl) ?_
    refine lv_aload_n C.1 C.2.1 dX11_end_5 rfl (lv_at hl 0 rfl) ?_
    refine gf_X11_110 C hw (hY 100 11 rfl) dX11_end_6 ?_
    refine lv_icmp_le (tgt := 14) C.1 C.2.1 dX11_end_9 (by decide) (fun hc2 => ?_) (fun hc2 => ?_)
    · replace hf := ea_if_t hc2 hf
      refine lv_aload_n C.1 C.2.1 dX11_end_14 rfl (lv_at hl 0 rfl) ?_
      refine lv_iload_n C.1 C.2.1 dX11_end_15 rfl (lv_at hl 1 rfl) ?_
      refine pu_X11_110 C hw (hY 100 11 rfl) dX11_end_16 (fun H locs hw => ?_)
      refine lv_iload_n C.1 C.2.1 dX11_end_19 rfl (lv_at hl 1 rfl) ?_
      exact ea_iret C hw hf dX11_end_20
    · replace hf := ea_if_f hc2 hf
      refine lv_iconst (v := (-1 : Int32)) C.1 C.2.1 dX11_end_12 (by decide) ?_
      exact ea_iret C hw hf dX11_end_13
set_option maxHeartbeats 4000000 in
set_option maxRecDepth 20000 in
theorem mX11_end {l : Launch} {E : eE} {ids : List Nat} (hY : ea_Y ids) {x1 : Int32} {M : eM} {res : Int32 × eM} (hf : fX11_end x1 M = some res) : ea_Mi l yX11_end cX11_end 2 (some .int) 0 0 E ids [.ref (E.1 100), .int x1] M res := by
  refine ea_goi (by decide) (Nat.le_of_ble_eq_true rfl) wc_X11_end ?_
  intro p e s m below meth cd ls C hw hl
  exact wX11_end_0 C hY _ _ _ _ _ hf hw hl
end SX11_end

def fX11_fault_0 (x1 : Int32) (M : eM) : Option (Int32 × eM) := if x1 = 0 then (some (M.1 100 8, M)) else (if x1 = (1 : Int32) then (some (M.1 100 9, M)) else (some ((-1 : Int32), M)))
def fX11_fault (x1 : Int32) (M : eM) : Option (Int32 × eM) := fX11_fault_0 x1 M
section SX11_fault
variable {p : Program} {l : Launch} {e : Env} {s : State} {m : MethodId} {args : Array Value} {below : List Frame} {meth : Method} {cd : Code} {E : eE} {ids : List Nat} {res : Int32 × eM}
set_option maxHeartbeats 4000000 in
set_option maxRecDepth 20000 in
theorem wX11_fault_0 (C : ea_C p s m args meth cd cX11_fault 2 (some .int) RX11) (hY : ea_Y ids) : ∀ (x1 : Int32) (M : eM) (H : Heap) (locs : List Loc) (ls : Array Slot), fX11_fault_0 x1 M = some res → ea_w E ids M s H locs → lv_has ls 2 [(0, .ref (E.1 100)), (1, .int x1)] → W p l e (ea_rm 0 0) s m args below meth cd H locs 0 0 (MQ below (ea_Qi E ids res) args s 0 0 (ea_Ad E ids)) (F0 m 0 ls []) := by
  intro x1 M H locs ls hf  hw hl
  replace hf := (fX11_fault_0.eq_1 ..).symm.trans hf
  refine lv_iload_n C.1 C.2.1 dX11_fault_0 rfl (lv_at hl 1 rfl) ?_
  refine lv_if_ne (tgt := 11) C.1 C.2.1 dX11_fault_1 (by decide) (fun hc1 => ?_) (fun hc1 => ?_)
  · replace hf := ea_if_f hc1 hf
    refine lv_iload_n C.1 C.2.1 dX11_fault_11 rfl (lv_at hl 1 rfl) ?_
    refine lv_iconst (v := 1) C.1 C.2.1 dX11_fault_12 (by decide) ?_
    refine lv_icmp_ne (tgt := 23) C.1 C.2.1 dX11_fault_13 (by decide) (fun hc2 => ?_) (fun hc2 => ?_)
    · replace hf := ea_if_f hc2 hf
      refine lv_iconst (v := (-1 : Int32)) C.1 C.2.1 dX11_fault_23 (by decide) ?_
      exact ea_iret C hw hf dX11_fault_24
    · replace hf := ea_if_t hc2 hf
      refine lv_aload_n C.1 C.2.1 dX11_fault_16 rfl (lv_at hl 0 rfl) ?_
      refine gf_X11_13 C hw (hY 100 11 rfl) dX11_fault_17 ?_
      refine lv_goto (tgt := 24) C.1 C.2.1 dX11_fault_20 (by decide) ?_
      exact ea_iret C hw hf dX11_fault_24
  · replace hf := ea_if_t hc1 hf
    refine lv_aload_n C.1 C.2.1 dX11_fault_4 rfl (lv_at hl 0 rfl) ?_
    refine gf_X11_166 C hw (hY 100 11 rfl) dX11_fault_5 ?_
    refine lv_goto (tgt := 24) C.1 C.2.1 dX11_fault_8 (by decide) ?_
    exact ea_iret C hw hf dX11_fault_24
set_option maxHeartbeats 4000000 in
set_option maxRecDepth 20000 in
theorem mX11_fault {l : Launch} {E : eE} {ids : List Nat} (hY : ea_Y ids) {x1 : Int32} {M : eM} {res : Int32 × eM} (hf : fX11_fault x1 M = some res) : ea_Mi l yX11_fault cX11_fault 2 (some .int) 0 0 E ids [.ref (E.1 100), .int x1] M res := by
  refine ea_goi (by decide) (Nat.le_of_ble_eq_true rfl) wc_X11_fault ?_
  intro p e s m below meth cd ls C hw hl
  exact wX11_fault_0 C hY _ _ _ _ _ hf hw hl
end SX11_fault

def fX11_feed_73 (k109 : Int32 → Int32 → Int32 → Int32 → Int32 → Int32 → eM → Option (Int32 × eM)) : Nat → Int32 → Int32 → Int32 → Int32 → Int32 → Int32 → Int32 → Int32 → eM → Option (Int32 × eM)
  | 0, _, _, _, _, _, _, _, _, _ => none
  | n + 1, x1, x2, x3, x4, x5, x6, x7, x8, M => if x8 < 0 then (k109 x1 x2 x3 x4 x5 x6 M) else (ea_ck (ea_ix (M.1 100 1) (ea_len 101)) (fX11_feed_73 k109 n x1 x2 x3 x4 x5 x6 x7 (x8 + (-8 : Int32)) (ea_pI (ea_pI M 101 ((M.1 100 1).toNatClampNeg) (vp_nar .byte ((x7 >>> (x8 &&& 31)).toInt8.toInt32))) 100 1 (((ea_pI M 101 ((M.1 100 1).toNatClampNeg) (vp_nar .byte ((x7 >>> (x8 &&& 31)).toInt8.toInt32))).1 100 1) + (1 : Int32)))))
def fX11_feed_109 (k19 : Int32 → Int32 → Int32 → Int32 → Int32 → Int32 → eM → Option (Int32 × eM)) (x1 : Int32) (x2 : Int32) (x3 : Int32) (x4 : Int32) (x5 : Int32) (x6 : Int32) (M : eM) : Option (Int32 × eM) := k19 x1 x2 x3 x4 x5 (x6 + (1 : Int32)) M
def fX11_feed_67 (k19 : Int32 → Int32 → Int32 → Int32 → Int32 → Int32 → eM → Option (Int32 × eM)) (x1 : Int32) (x2 : Int32) (x3 : Int32) (x4 : Int32) (x5 : Int32) (x6 : Int32) (t0 : Int32) (M : eM) : Option (Int32 × eM) := fX11_feed_73 (fX11_feed_109 k19) ea_N x1 x2 x3 x4 x5 x6 t0 (24 : Int32) M
def fX11_feed_19 (k115 : eM → Option (Int32 × eM)) : Nat → Int32 → Int32 → Int32 → Int32 → Int32 → Int32 → eM → Option (Int32 × eM)
  | 0, _, _, _, _, _, _, _ => none
  | n + 1, x1, x2, x3, x4, x5, x6, M => if (5 : Int32) ≤ x6 then (k115 M) else (if x6 = 0 then (fX11_feed_67 (fX11_feed_19 k115 n) x1 x2 x3 x4 x5 x6 x1 M) else (if x6 = (1 : Int32) then (fX11_feed_67 (fX11_feed_19 k115 n) x1 x2 x3 x4 x5 x6 x2 M) else (if x6 = (2 : Int32) then (fX11_feed_67 (fX11_feed_19 k115 n) x1 x2 x3 x4 x5 x6 x3 M) else (if x6 = (3 : Int32) then (fX11_feed_67 (fX11_feed_19 k115 n) x1 x2 x3 x4 x5 x6 x4 M) else (fX11_feed_67 (fX11_feed_19 k115 n) x1 x2 x3 x4 x5 x6 x5 M)))))
def fX11_feed_115 (M : eM) : Option (Int32 × eM) := some (M.1 100 1, M)
def fX11_feed_0 (x1 : Int32) (x2 : Int32) (x3 : Int32) (x4 : Int32) (x5 : Int32) (M : eM) : Option (Int32 × eM) := if ((M.1 100 1) + (20 : Int32)) ≤ (900 : Int32) then (fX11_feed_19 (fX11_feed_115) ea_N x1 x2 x3 x4 x5 (0 : Int32) M) else (some ((-3 : Int32), M))
def fX11_feed (x1 : Int32) (x2 : Int32) (x3 : Int32) (x4 : Int32) (x5 : Int32) (M : eM) : Option (Int32 × eM) := fX11_feed_0 x1 x2 x3 x4 x5 M
section SX11_feed
variable {p : Program} {l : Launch} {e : Env} {s : State} {m : MethodId} {args : Array Value} {below : List Frame} {meth : Method} {cd : Code} {E : eE} {ids : List Nat} {res : Int32 × eM}
set_option maxHeartbeats 4000000 in
set_option maxRecDepth 20000 in
theorem wX11_feed_73 (C : ea_C p s m args meth cd cX11_feed 9 (some .int) RX11) (hY : ea_Y ids) {k109 : Int32 → Int32 → Int32 → Int32 → Int32 → Int32 → eM → Option (Int32 × eM)} (hk109 : ∀ (x1 : Int32) (x2 : Int32) (x3 : Int32) (x4 : Int32) (x5 : Int32) (x6 : Int32) (M : eM) (H : Heap) (locs : List Loc) (ls : Array Slot), k109 x1 x2 x3 x4 x5 x6 M = some res → ea_w E ids M s H locs → lv_has ls 9 [(0, .ref (E.1 100)), (1, .int x1), (2, .int x2), (3, .int x3), (4, .int x4), (5, .int x5), (6, .int x6)] → W p l e (ea_rm 0 0) s m args below meth cd H locs 0 0 (MQ below (ea_Qi E ids res) args s 0 0 (ea_Ad E ids)) (F0 m 109 ls [])) : ∀ (n : Nat) (x1 : Int32) (x2 : Int32) (x3 : Int32) (x4 : Int32) (x5 : Int32) (x6 : Int32) (x7 : Int32) (x8 : Int32) (M : eM) (H : Heap) (locs : List Loc) (ls : Array Slot), fX11_feed_73 k109 n x1 x2 x3 x4 x5 x6 x7 x8 M = some res → ea_w E ids M s H locs → lv_has ls 9 [(0, .ref (E.1 100)), (1, .int x1), (2, .int x2), (3, .int x3), (4, .int x4), (5, .int x5), (6, .int x6), (7, .int x7), (8, .int x8)] → W p l e (ea_rm 0 0) s m args below meth cd H locs 0 0 (MQ below (ea_Qi E ids res) args s 0 0 (ea_Ad E ids)) (F0 m 73 ls []) := by
  intro n
  induction n with
  | zero => intro x1 x2 x3 x4 x5 x6 x7 x8 M H locs ls hf; cases hf
  | succ n ih =>
    intro x1 x2 x3 x4 x5 x6 x7 x8 M H locs ls hf  hw hl
    replace hf := (fX11_feed_73.eq_2 ..).symm.trans hf
    refine lv_iload C.1 C.2.1 dX11_feed_73 (lv_at hl 8 rfl) ?_
    refine lv_if_lt (tgt := 109) C.1 C.2.1 dX11_feed_75 (by decide) (fun hc1 => ?_) (fun hc1 => ?_)
    · replace hf := ea_if_t hc1 hf
      exact hk109 _ _ _ _ _ _ _ _ _ _ hf hw (lv_sub hl [0, 1, 2, 3, 4, 5, 6] rfl)
    · replace hf := ea_if_f hc1 hf
      refine lv_aload_n C.1 C.2.1 dX11_feed_78 rfl (lv_at hl 0 rfl) ?_
      refine gf_X11_7 C hw (hY 100 11 rfl) dX11_feed_79 ?_
      refine W.eq (g2 := F0 m 82 ls [.ref (E.1 101)]) rfl ?_
      refine lv_aload_n C.1 C.2.1 dX11_feed_82 rfl (lv_at hl 0 rfl) ?_
      refine gf_X11_110 C hw (hY 100 11 rfl) dX11_feed_83 ?_
      refine lv_iload C.1 C.2.1 dX11_feed_86 (lv_at hl 7 rfl) ?_
      refine lv_iload C.1 C.2.1 dX11_feed_88 (lv_at hl 8 rfl) ?_
      refine lv_ishr C.1 C.2.1 dX11_feed_90 ?_
      refine lv_i2b C.1 C.2.1 dX11_feed_91 rfl ?_
      obtain ⟨hc2, hf⟩ := ea_ck_s hf
      refine ea_bast C hw (show ea_ok ids 101 22 from ok_11_0 (hY 100 11 rfl)) hc2 dX11_feed_92 (fun H locs hw => ?_)
      refine lv_aload_n C.1 C.2.1 dX11_feed_93 rfl (lv_at hl 0 rfl) ?_
      refine lv_dup C.1 C.2.1 dX11_feed_94 rfl ?_
      refine gf_X11_110 C hw (hY 100 11 rfl) dX11_feed_95 ?_
      refine lv_iconst (v := 1) C.1 C.2.1 dX11_feed_98 (by decide) ?_
      refine lv_iadd C.1 C.2.1 dX11_feed_99 ?_
      refine pu_X11_110 C hw (hY 100 11 rfl) dX11_feed_100 (fun H locs hw => ?_)
      refine lv_iinc (v := x8 + (-8 : Int32)) (lv' := [(8, .int (x8 + (-8 : Int32))), (0, .ref (E.1 100)), (1, .int x1), (2, .int x2), (3, .int x3), (4, .int x4), (5, .int x5), (6, .int x6), (7, .int x7)]) C.1 C.2.1 dX11_feed_103 hl (k := 8) rfl rfl (by decide) rfl (fun ls hl => ?_)
      refine lv_goto (tgt := 73) C.1 C.2.1 dX11_feed_106 (by decide) ?_
      exact ih _ _ _ _ _ _ _ _ _ _ _ _ hf hw (lv_sub hl [1, 2, 3, 4, 5, 6, 7, 8, 0] rfl)
set_option maxHeartbeats 4000000 in
set_option maxRecDepth 20000 in
theorem wX11_feed_109 (C : ea_C p s m args meth cd cX11_feed 9 (some .int) RX11) (hY : ea_Y ids) {k19 : Int32 → Int32 → Int32 → Int32 → Int32 → Int32 → eM → Option (Int32 × eM)} (hk19 : ∀ (x1 : Int32) (x2 : Int32) (x3 : Int32) (x4 : Int32) (x5 : Int32) (x6 : Int32) (M : eM) (H : Heap) (locs : List Loc) (ls : Array Slot), k19 x1 x2 x3 x4 x5 x6 M = some res → ea_w E ids M s H locs → lv_has ls 9 [(0, .ref (E.1 100)), (1, .int x1), (2, .int x2), (3, .int x3), (4, .int x4), (5, .int x5), (6, .int x6)] → W p l e (ea_rm 0 0) s m args below meth cd H locs 0 0 (MQ below (ea_Qi E ids res) args s 0 0 (ea_Ad E ids)) (F0 m 19 ls [])) : ∀ (x1 : Int32) (x2 : Int32) (x3 : Int32) (x4 : Int32) (x5 : Int32) (x6 : Int32) (M : eM) (H : Heap) (locs : List Loc) (ls : Array Slot), fX11_feed_109 k19 x1 x2 x3 x4 x5 x6 M = some res → ea_w E ids M s H locs → lv_has ls 9 [(0, .ref (E.1 100)), (1, .int x1), (2, .int x2), (3, .int x3), (4, .int x4), (5, .int x5), (6, .int x6)] → W p l e (ea_rm 0 0) s m args below meth cd H locs 0 0 (MQ below (ea_Qi E ids res) args s 0 0 (ea_Ad E ids)) (F0 m 109 ls []) := by
  intro x1 x2 x3 x4 x5 x6 M H locs ls hf  hw hl
  replace hf := (fX11_feed_109.eq_1 ..).symm.trans hf
  refine lv_iinc (v := x6 + (1 : Int32)) (lv' := [(6, .int (x6 + (1 : Int32))), (0, .ref (E.1 100)), (1, .int x1), (2, .int x2), (3, .int x3), (4, .int x4), (5, .int x5)]) C.1 C.2.1 dX11_feed_109 hl (k := 6) rfl rfl (by decide) rfl (fun ls hl => ?_)
  refine lv_goto (tgt := 19) C.1 C.2.1 dX11_feed_112 (by decide) ?_
  exact hk19 _ _ _ _ _ _ _ _ _ _ hf hw (lv_sub hl [1, 2, 3, 4, 5, 6, 0] rfl)
set_option maxHeartbeats 4000000 in
set_option maxRecDepth 20000 in
theorem wX11_feed_67 (C : ea_C p s m args meth cd cX11_feed 9 (some .int) RX11) (hY : ea_Y ids) {k19 : Int32 → Int32 → Int32 → Int32 → Int32 → Int32 → eM → Option (Int32 × eM)} (hk19 : ∀ (x1 : Int32) (x2 : Int32) (x3 : Int32) (x4 : Int32) (x5 : Int32) (x6 : Int32) (M : eM) (H : Heap) (locs : List Loc) (ls : Array Slot), k19 x1 x2 x3 x4 x5 x6 M = some res → ea_w E ids M s H locs → lv_has ls 9 [(0, .ref (E.1 100)), (1, .int x1), (2, .int x2), (3, .int x3), (4, .int x4), (5, .int x5), (6, .int x6)] → W p l e (ea_rm 0 0) s m args below meth cd H locs 0 0 (MQ below (ea_Qi E ids res) args s 0 0 (ea_Ad E ids)) (F0 m 19 ls [])) : ∀ (x1 : Int32) (x2 : Int32) (x3 : Int32) (x4 : Int32) (x5 : Int32) (x6 : Int32) (t0 : Int32) (M : eM) (H : Heap) (locs : List Loc) (ls : Array Slot), fX11_feed_67 k19 x1 x2 x3 x4 x5 x6 t0 M = some res → ea_w E ids M s H locs → lv_has ls 9 [(0, .ref (E.1 100)), (1, .int x1), (2, .int x2), (3, .int x3), (4, .int x4), (5, .int x5), (6, .int x6)] → W p l e (ea_rm 0 0) s m args below meth cd H locs 0 0 (MQ below (ea_Qi E ids res) args s 0 0 (ea_Ad E ids)) (F0 m 67 ls [.int t0]) := by
  intro x1 x2 x3 x4 x5 x6 t0 M H locs ls hf  hw hl
  replace hf := (fX11_feed_67.eq_1 ..).symm.trans hf
  refine lv_istore (lv' := [(7, .int t0), (0, .ref (E.1 100)), (1, .int x1), (2, .int x2), (3, .int x3), (4, .int x4), (5, .int x5), (6, .int x6)]) C.1 C.2.1 dX11_feed_67 hl (by decide) rfl (fun ls hl => ?_)
  refine lv_bipush (v := 24) C.1 C.2.1 dX11_feed_69 (by decide) ?_
  refine lv_istore (lv' := [(8, .int (24 : Int32)), (7, .int t0), (0, .ref (E.1 100)), (1, .int x1), (2, .int x2), (3, .int x3), (4, .int x4), (5, .int x5), (6, .int x6)]) C.1 C.2.1 dX11_feed_71 hl (by decide) rfl (fun ls hl => ?_)
  exact wX11_feed_73 C hY (wX11_feed_109 C hY hk19) ea_N _ _ _ _ _ _ _ _ _ _ _ _ hf hw (lv_sub hl [2, 3, 4, 5, 6, 7, 8, 1, 0] rfl)
set_option maxHeartbeats 4000000 in
set_option maxRecDepth 20000 in
theorem wX11_feed_19 (C : ea_C p s m args meth cd cX11_feed 9 (some .int) RX11) (hY : ea_Y ids) {k115 : eM → Option (Int32 × eM)} (hk115 : ∀  (M : eM) (H : Heap) (locs : List Loc) (ls : Array Slot), k115 M = some res → ea_w E ids M s H locs → lv_has ls 9 [(0, .ref (E.1 100))] → W p l e (ea_rm 0 0) s m args below meth cd H locs 0 0 (MQ below (ea_Qi E ids res) args s 0 0 (ea_Ad E ids)) (F0 m 115 ls [])) : ∀ (n : Nat) (x1 : Int32) (x2 : Int32) (x3 : Int32) (x4 : Int32) (x5 : Int32) (x6 : Int32) (M : eM) (H : Heap) (locs : List Loc) (ls : Array Slot), fX11_feed_19 k115 n x1 x2 x3 x4 x5 x6 M = some res → ea_w E ids M s H locs → lv_has ls 9 [(0, .ref (E.1 100)), (1, .int x1), (2, .int x2), (3, .int x3), (4, .int x4), (5, .int x5), (6, .int x6)] → W p l e (ea_rm 0 0) s m args below meth cd H locs 0 0 (MQ below (ea_Qi E ids res) args s 0 0 (ea_Ad E ids)) (F0 m 19 ls []) := by
  intro n
  induction n with
  | zero => intro x1 x2 x3 x4 x5 x6 M H locs ls hf; cases hf
  | succ n ih =>
    intro x1 x2 x3 x4 x5 x6 M H locs ls hf  hw hl
    replace hf := (fX11_feed_19.eq_2 ..).symm.trans hf
    refine lv_iload C.1 C.2.1 dX11_feed_19 (lv_at hl 6 rfl) ?_
    refine lv_iconst (v := 5) C.1 C.2.1 dX11_feed_21 (by decide) ?_
    refine lv_icmp_ge (tgt := 115) C.1 C.2.1 dX11_feed_22 (by decide) (fun hc1 => ?_) (fun hc1 => ?_)
    · replace hf := ea_if_t hc1 hf
      exact hk115 _ _ _ _ hf hw (lv_sub hl [0] rfl)
    · replace hf := ea_if_f hc1 hf
      refine lv_iload C.1 C.2.1 dX11_feed_25 (lv_at hl 6 rfl) ?_
      refine lv_if_ne (tgt := 34) C.1 C.2.1 dX11_feed_27 (by decide) (fun hc2 => ?_) (fun hc2 => ?_)
      · replace hf := ea_if_f hc2 hf
        refine lv_iload C.1 C.2.1 dX11_feed_34 (lv_at hl 6 rfl) ?_
        refine lv_iconst (v := 1) C.1 C.2.1 dX11_feed_36 (by decide) ?_
        refine lv_icmp_ne (tgt := 44) C.1 C.2.1 dX11_feed_37 (by decide) (fun hc3 => ?_) (fun hc3 => ?_)
        · replace hf := ea_if_f hc3 hf
          refine lv_iload C.1 C.2.1 dX11_feed_44 (lv_at hl 6 rfl) ?_
          refine lv_iconst (v := 2) C.1 C.2.1 dX11_feed_46 (by decide) ?_
          refine lv_icmp_ne (tgt := 54) C.1 C.2.1 dX11_feed_47 (by decide) (fun hc4 => ?_) (fun hc4 => ?_)
          · replace hf := ea_if_f hc4 hf
            refine lv_iload C.1 C.2.1 dX11_feed_54 (lv_at hl 6 rfl) ?_
            refine lv_iconst (v := 3) C.1 C.2.1 dX11_feed_56 (by decide) ?_
            refine lv_icmp_ne (tgt := 65) C.1 C.2.1 dX11_feed_57 (by decide) (fun hc5 => ?_) (fun hc5 => ?_)
            · replace hf := ea_if_f hc5 hf
              refine lv_iload C.1 C.2.1 dX11_feed_65 (lv_at hl 5 rfl) ?_
              exact wX11_feed_67 C hY ih _ _ _ _ _ _ _ _ _ _ _ hf hw (lv_sub hl [0, 1, 2, 3, 4, 5, 6] rfl)
            · replace hf := ea_if_t hc5 hf
              refine lv_iload C.1 C.2.1 dX11_feed_60 (lv_at hl 4 rfl) ?_
              refine lv_goto (tgt := 67) C.1 C.2.1 dX11_feed_62 (by decide) ?_
              exact wX11_feed_67 C hY ih _ _ _ _ _ _ _ _ _ _ _ hf hw (lv_sub hl [0, 1, 2, 3, 4, 5, 6] rfl)
          · replace hf := ea_if_t hc4 hf
            refine lv_iload_n C.1 C.2.1 dX11_feed_50 rfl (lv_at hl 3 rfl) ?_
            refine lv_goto (tgt := 67) C.1 C.2.1 dX11_feed_51 (by decide) ?_
            exact wX11_feed_67 C hY ih _ _ _ _ _ _ _ _ _ _ _ hf hw (lv_sub hl [0, 1, 2, 3, 4, 5, 6] rfl)
        · replace hf := ea_if_t hc3 hf
          refine lv_iload_n C.1 C.2.1 dX11_feed_40 rfl (lv_at hl 2 rfl) ?_
          refine lv_goto (tgt := 67) C.1 C.2.1 dX11_feed_41 (by decide) ?_
          exact wX11_feed_67 C hY ih _ _ _ _ _ _ _ _ _ _ _ hf hw (lv_sub hl [0, 1, 2, 3, 4, 5, 6] rfl)
      · replace hf := ea_if_t hc2 hf
        refine lv_iload_n C.1 C.2.1 dX11_feed_30 rfl (lv_at hl 1 rfl) ?_
        refine lv_goto (tgt := 67) C.1 C.2.1 dX11_feed_31 (by decide) ?_
        exact wX11_feed_67 C hY ih _ _ _ _ _ _ _ _ _ _ _ hf hw (lv_sub hl [0, 1, 2, 3, 4, 5, 6] rfl)
set_option maxHeartbeats 4000000 in
set_option maxRecDepth 20000 in
theorem wX11_feed_115 (C : ea_C p s m args meth cd cX11_feed 9 (some .int) RX11) (hY : ea_Y ids) : ∀  (M : eM) (H : Heap) (locs : List Loc) (ls : Array Slot), fX11_feed_115 M = some res → ea_w E ids M s H locs → lv_has ls 9 [(0, .ref (E.1 100))] → W p l e (ea_rm 0 0) s m args below meth cd H locs 0 0 (MQ below (ea_Qi E ids res) args s 0 0 (ea_Ad E ids)) (F0 m 115 ls []) := by
  intro M H locs ls hf  hw hl
  replace hf := (fX11_feed_115.eq_1 ..).symm.trans hf
  refine lv_aload_n C.1 C.2.1 dX11_feed_115 rfl (lv_at hl 0 rfl) ?_
  refine gf_X11_110 C hw (hY 100 11 rfl) dX11_feed_116 ?_
  exact ea_iret C hw hf dX11_feed_119
set_option maxHeartbeats 4000000 in
set_option maxRecDepth 20000 in
theorem wX11_feed_0 (C : ea_C p s m args meth cd cX11_feed 9 (some .int) RX11) (hY : ea_Y ids) : ∀ (x1 : Int32) (x2 : Int32) (x3 : Int32) (x4 : Int32) (x5 : Int32) (M : eM) (H : Heap) (locs : List Loc) (ls : Array Slot), fX11_feed_0 x1 x2 x3 x4 x5 M = some res → ea_w E ids M s H locs → lv_has ls 9 [(0, .ref (E.1 100)), (1, .int x1), (2, .int x2), (3, .int x3), (4, .int x4), (5, .int x5)] → W p l e (ea_rm 0 0) s m args below meth cd H locs 0 0 (MQ below (ea_Qi E ids res) args s 0 0 (ea_Ad E ids)) (F0 m 0 ls []) := by
  intro x1 x2 x3 x4 x5 M H locs ls hf  hw hl
  replace hf := (fX11_feed_0.eq_1 ..).symm.trans hf
  refine lv_aload_n C.1 C.2.1 dX11_feed_0 rfl (lv_at hl 0 rfl) ?_
  refine gf_X11_110 C hw (hY 100 11 rfl) dX11_feed_1 ?_
  refine lv_bipush (v := 20) C.1 C.2.1 dX11_feed_4 (by decide) ?_
  refine lv_iadd C.1 C.2.1 dX11_feed_6 ?_
  refine lv_sipush (v := 900) C.1 C.2.1 dX11_feed_7 (by decide) ?_
  refine lv_icmp_le (tgt := 16) C.1 C.2.1 dX11_feed_10 (by decide) (fun hc1 => ?_) (fun hc1 => ?_)
  · replace hf := ea_if_t hc1 hf
    refine lv_iconst (v := 0) C.1 C.2.1 dX11_feed_16 (by decide) ?_
    refine lv_istore (lv' := [(6, .int (0 : Int32)), (0, .ref (E.1 100)), (1, .int x1), (2, .int x2), (3, .int x3), (4, .int x4), (5, .int x5)]) C.1 C.2.1 dX11_feed_17 hl (by decide) rfl (fun ls hl => ?_)
    exact wX11_feed_19 C hY (wX11_feed_115 C hY) ea_N _ _ _ _ _ _ _ _ _ _ hf hw (lv_sub hl [1, 2, 3, 4, 5, 6, 0] rfl)
  · replace hf := ea_if_f hc1 hf
    refine lv_bipush (v := (-3 : Int32)) C.1 C.2.1 dX11_feed_13 (by decide) ?_
    exact ea_iret C hw hf dX11_feed_15
set_option maxHeartbeats 4000000 in
set_option maxRecDepth 20000 in
theorem mX11_feed {l : Launch} {E : eE} {ids : List Nat} (hY : ea_Y ids) {x1 : Int32} {x2 : Int32} {x3 : Int32} {x4 : Int32} {x5 : Int32} {M : eM} {res : Int32 × eM} (hf : fX11_feed x1 x2 x3 x4 x5 M = some res) : ea_Mi l yX11_feed cX11_feed 9 (some .int) 0 0 E ids [.ref (E.1 100), .int x1, .int x2, .int x3, .int x4, .int x5] M res := by
  refine ea_goi (by decide) (Nat.le_of_ble_eq_true rfl) wc_X11_feed ?_
  intro p e s m below meth cd ls C hw hl
  exact wX11_feed_0 C hY _ _ _ _ _ _ _ _ _ hf hw hl
end SX11_feed

def fX11_fit_0 (x1 : Int32) (x2 : Int32) (x3 : Int32) (x4 : Int32) (M : eM) : Option (Int32 × eM) := ea_ci (fX11_isAsked x1 x2 x3 M) (fun r2 M3 => if r2 = 0 then (some ((-2 : Int32), M3)) else (ea_ci (fX11_in x4 (0 : Int32) (3 : Int32) M3) (fun r6 M7 => if r6 = 0 then (some ((-2 : Int32), M7)) else (ea_cv (fX11_findFits x1 x2 x3 M7) (fun M10 => if (2 : Int32) ≤ x4 then (if (M10.1 100 33) = 0 then (some ((-1 : Int32), M10)) else (if x4 = (2 : Int32) then (some (M10.1 119 (0 : Int32).toNatClampNeg, M10)) else (some (M10.1 120 (0 : Int32).toNatClampNeg, M10)))) else (if x4 = 0 then (some (M10.1 100 33, M10)) else (some (M10.1 100 34, M10))))))))
def fX11_fit (x1 : Int32) (x2 : Int32) (x3 : Int32) (x4 : Int32) (M : eM) : Option (Int32 × eM) := fX11_fit_0 x1 x2 x3 x4 M
section SX11_fit
variable {p : Program} {l : Launch} {e : Env} {s : State} {m : MethodId} {args : Array Value} {below : List Frame} {meth : Method} {cd : Code} {E : eE} {ids : List Nat} {res : Int32 × eM}
set_option maxHeartbeats 4000000 in
set_option maxRecDepth 20000 in
theorem wX11_fit_0 (C : ea_C p s m args meth cd cX11_fit 5 (some .int) RX11) (hY : ea_Y ids) : ∀ (x1 : Int32) (x2 : Int32) (x3 : Int32) (x4 : Int32) (M : eM) (H : Heap) (locs : List Loc) (ls : Array Slot), fX11_fit_0 x1 x2 x3 x4 M = some res → ea_w E ids M s H locs → lv_has ls 5 [(0, .ref (E.1 100)), (1, .int x1), (2, .int x2), (3, .int x3), (4, .int x4)] → W p l e (ea_rm 6 143) s m args below meth cd H locs 0 0 (MQ below (ea_Qi E ids res) args s 0 0 (ea_Ad E ids)) (F0 m 0 ls []) := by
  intro x1 x2 x3 x4 M H locs ls hf  hw hl
  replace hf := (fX11_fit_0.eq_1 ..).symm.trans hf
  refine lv_aload_n C.1 C.2.1 dX11_fit_0 rfl (lv_at hl 0 rfl) ?_
  refine lv_iload_n C.1 C.2.1 dX11_fit_1 rfl (lv_at hl 1 rfl) ?_
  refine lv_iload_n C.1 C.2.1 dX11_fit_2 rfl (lv_at hl 2 rfl) ?_
  refine lv_iload_n C.1 C.2.1 dX11_fit_3 rfl (lv_at hl 3 rfl) ?_
  obtain ⟨r2, M3, he1, hf⟩ := ea_ci_s hf
  refine ea_runi2 hw (cl_X11_310 C hw (hY 100 11 rfl) (As := [.int x1, .int x2, .int x3]) (rest := []) (mX11_isAsked (l := l) (E := E) (ids := ids) hY he1) (by decide) rfl hl.1 rfl (Nat.le_of_ble_eq_true rfl) dX11_fit_4 ⟨Nat.le_refl _, Nat.le_refl _⟩) (fun H locs hw => ?_)
  refine lv_if_eq (tgt := 20) C.1 C.2.1 dX11_fit_7 (by decide) (fun hc4 => ?_) (fun hc4 => ?_)
  · replace hf := ea_if_t hc4 hf
    refine lv_bipush (v := (-2 : Int32)) C.1 C.2.1 dX11_fit_20 (by decide) ?_
    exact ea_iret C hw hf dX11_fit_22
  · replace hf := ea_if_f hc4 hf
    refine lv_iload C.1 C.2.1 dX11_fit_10 (lv_at hl 4 rfl) ?_
    refine lv_iconst (v := 0) C.1 C.2.1 dX11_fit_12 (by decide) ?_
    refine lv_iconst (v := 3) C.1 C.2.1 dX11_fit_13 (by decide) ?_
    obtain ⟨r6, M7, he5, hf⟩ := ea_ci_s hf
    refine ea_runi2 hw (cl_X11_172 C hw (As := [.int x4, .int (0 : Int32), .int (3 : Int32)]) (rest := []) (mX11_in (l := l) (E := E) (ids := ids) hY he5) (by decide) rfl hl.1 rfl (Nat.le_of_ble_eq_true rfl) dX11_fit_14 ⟨Nat.le_refl _, Nat.le_refl _⟩) (fun H locs hw => ?_)
    refine lv_if_ne (tgt := 23) C.1 C.2.1 dX11_fit_17 (by decide) (fun hc8 => ?_) (fun hc8 => ?_)
    · replace hf := ea_if_f hc8 hf
      refine lv_aload_n C.1 C.2.1 dX11_fit_23 rfl (lv_at hl 0 rfl) ?_
      refine lv_iload_n C.1 C.2.1 dX11_fit_24 rfl (lv_at hl 1 rfl) ?_
      refine lv_iload_n C.1 C.2.1 dX11_fit_25 rfl (lv_at hl 2 rfl) ?_
      refine lv_iload_n C.1 C.2.1 dX11_fit_26 rfl (lv_at hl 3 rfl) ?_
      obtain ⟨M10, he9, hf⟩ := ea_cv_s hf
      refine ea_runv hw (cl_X11_313 C hw (hY 100 11 rfl) (As := [.int x1, .int x2, .int x3]) (rest := []) (mX11_findFits (l := l) (E := E) (ids := ids) hY he9) (by decide) rfl hl.1 rfl (Nat.le_of_ble_eq_true rfl) dX11_fit_27 ⟨Nat.le_refl _, Nat.le_refl _⟩) (fun H locs hw => ?_)
      refine lv_iload C.1 C.2.1 dX11_fit_30 (lv_at hl 4 rfl) ?_
      refine lv_iconst (v := 2) C.1 C.2.1 dX11_fit_32 (by decide) ?_
      refine lv_icmp_ge (tgt := 53) C.1 C.2.1 dX11_fit_33 (by decide) (fun hc11 => ?_) (fun hc11 => ?_)
      · replace hf := ea_if_t hc11 hf
        refine lv_aload_n C.1 C.2.1 dX11_fit_53 rfl (lv_at hl 0 rfl) ?_
        refine gf_X11_300 C hw (hY 100 11 rfl) dX11_fit_54 ?_
        refine lv_if_ne (tgt := 64) C.1 C.2.1 dX11_fit_57 (by decide) (fun hc12 => ?_) (fun hc12 => ?_)
        · replace hf := ea_if_f hc12 hf
          refine lv_iload C.1 C.2.1 dX11_fit_64 (lv_at hl 4 rfl) ?_
          refine lv_iconst (v := 2) C.1 C.2.1 dX11_fit_66 (by decide) ?_
          refine lv_icmp_ne (tgt := 79) C.1 C.2.1 dX11_fit_67 (by decide) (fun hc13 => ?_) (fun hc13 => ?_)
          · replace hf := ea_if_f hc13 hf
            refine lv_aload_n C.1 C.2.1 dX11_fit_79 rfl (lv_at hl 0 rfl) ?_
            refine gf_X11_74 C hw (hY 100 11 rfl) dX11_fit_80 ?_
            refine W.eq (g2 := F0 m 83 ls [.ref (E.1 120)]) rfl ?_
            refine lv_iconst (v := 0) C.1 C.2.1 dX11_fit_83 (by decide) ?_
            refine ea_iald C hw (show ea_ok ids 120 20 from ok_11_36 (hY 100 11 rfl)) (by decide) dX11_fit_84 ?_
            exact ea_iret C hw hf dX11_fit_85
          · replace hf := ea_if_t hc13 hf
            refine lv_aload_n C.1 C.2.1 dX11_fit_70 rfl (lv_at hl 0 rfl) ?_
            refine gf_X11_71 C hw (hY 100 11 rfl) dX11_fit_71 ?_
            refine W.eq (g2 := F0 m 74 ls [.ref (E.1 119)]) rfl ?_
            refine lv_iconst (v := 0) C.1 C.2.1 dX11_fit_74 (by decide) ?_
            refine ea_iald C hw (show ea_ok ids 119 20 from ok_11_35 (hY 100 11 rfl)) (by decide) dX11_fit_75 ?_
            refine lv_goto (tgt := 85) C.1 C.2.1 dX11_fit_76 (by decide) ?_
            exact ea_iret C hw hf dX11_fit_85
        · replace hf := ea_if_t hc12 hf
          refine lv_iconst (v := (-1 : Int32)) C.1 C.2.1 dX11_fit_60 (by decide) ?_
          refine lv_goto (tgt := 85) C.1 C.2.1 dX11_fit_61 (by decide) ?_
          exact ea_iret C hw hf dX11_fit_85
      · replace hf := ea_if_f hc11 hf
        refine lv_iload C.1 C.2.1 dX11_fit_36 (lv_at hl 4 rfl) ?_
        refine lv_if_ne (tgt := 48) C.1 C.2.1 dX11_fit_38 (by decide) (fun hc14 => ?_) (fun hc14 => ?_)
        · replace hf := ea_if_f hc14 hf
          refine lv_aload_n C.1 C.2.1 dX11_fit_48 rfl (lv_at hl 0 rfl) ?_
          refine gf_X11_303 C hw (hY 100 11 rfl) dX11_fit_49 ?_
          exact ea_iret C hw hf dX11_fit_52
        · replace hf := ea_if_t hc14 hf
          refine lv_aload_n C.1 C.2.1 dX11_fit_41 rfl (lv_at hl 0 rfl) ?_
          refine gf_X11_300 C hw (hY 100 11 rfl) dX11_fit_42 ?_
          refine lv_goto (tgt := 52) C.1 C.2.1 dX11_fit_45 (by decide) ?_
          exact ea_iret C hw hf dX11_fit_52
    · replace hf := ea_if_t hc8 hf
      refine lv_bipush (v := (-2 : Int32)) C.1 C.2.1 dX11_fit_20 (by decide) ?_
      exact ea_iret C hw hf dX11_fit_22
set_option maxHeartbeats 4000000 in
set_option maxRecDepth 20000 in
theorem mX11_fit {l : Launch} {E : eE} {ids : List Nat} (hY : ea_Y ids) {x1 : Int32} {x2 : Int32} {x3 : Int32} {x4 : Int32} {M : eM} {res : Int32 × eM} (hf : fX11_fit x1 x2 x3 x4 M = some res) : ea_Mi l yX11_fit cX11_fit 5 (some .int) 6 143 E ids [.ref (E.1 100), .int x1, .int x2, .int x3, .int x4] M res := by
  refine ea_goi (by decide) (Nat.le_of_ble_eq_true rfl) wc_X11_fit ?_
  intro p e s m below meth cd ls C hw hl
  exact wX11_fit_0 C hY _ _ _ _ _ _ _ _ hf hw hl
end SX11_fit

def fX11_gone_0 (x1 : Int32) (x2 : Int32) (x3 : Int32) (M : eM) : Option (Int32 × eM) := ea_ci (fX11_isTelling x1 M) (fun r2 M3 => if r2 = 0 then (some ((-2 : Int32), M3)) else (ea_ci (fX11_isCell x2 M3) (fun r6 M7 => if r6 = 0 then (some ((-2 : Int32), M7)) else (ea_ci (fX11_in x3 (0 : Int32) (1 : Int32) M7) (fun r10 M11 => if r10 = 0 then (some ((-2 : Int32), M11)) else (ea_ci (fX11_addLook x1 x2 x3 (0 : Int32) (0 : Int32) (0 : Int32) (1 : Int32) M11) (fun r14 M15 => some (r14, M15))))))))
def fX11_gone (x1 : Int32) (x2 : Int32) (x3 : Int32) (M : eM) : Option (Int32 × eM) := fX11_gone_0 x1 x2 x3 M
section SX11_gone
variable {p : Program} {l : Launch} {e : Env} {s : State} {m : MethodId} {args : Array Value} {below : List Frame} {meth : Method} {cd : Code} {E : eE} {ids : List Nat} {res : Int32 × eM}
set_option maxHeartbeats 4000000 in
set_option maxRecDepth 20000 in
theorem wX11_gone_0 (C : ea_C p s m args meth cd cX11_gone 4 (some .int) RX11) (hY : ea_Y ids) : ∀ (x1 : Int32) (x2 : Int32) (x3 : Int32) (M : eM) (H : Heap) (locs : List Loc) (ls : Array Slot), fX11_gone_0 x1 x2 x3 M = some res → ea_w E ids M s H locs → lv_has ls 4 [(0, .ref (E.1 100)), (1, .int x1), (2, .int x2), (3, .int x3)] → W p l e (ea_rm 2 43) s m args below meth cd H locs 0 0 (MQ below (ea_Qi E ids res) args s 0 0 (ea_Ad E ids)) (F0 m 0 ls []) := by
  intro x1 x2 x3 M H locs ls hf  hw hl
  replace hf := (fX11_gone_0.eq_1 ..).symm.trans hf
  refine lv_aload_n C.1 C.2.1 dX11_gone_0 rfl (lv_at hl 0 rfl) ?_
  refine lv_iload_n C.1 C.2.1 dX11_gone_1 rfl (lv_at hl 1 rfl) ?_
  obtain ⟨r2, M3, he1, hf⟩ := ea_ci_s hf
  refine ea_runi2 hw (cl_X11_261 C hw (hY 100 11 rfl) (As := [.int x1]) (rest := []) (mX11_isTelling (l := l) (E := E) (ids := ids) hY he1) (by decide) rfl hl.1 rfl (Nat.le_of_ble_eq_true rfl) dX11_gone_2 ⟨Nat.le_refl _, Nat.le_refl _⟩) (fun H locs hw => ?_)
  refine lv_if_eq (tgt := 39) C.1 C.2.1 dX11_gone_5 (by decide) (fun hc4 => ?_) (fun hc4 => ?_)
  · replace hf := ea_if_t hc4 hf
    refine lv_bipush (v := (-2 : Int32)) C.1 C.2.1 dX11_gone_39 (by decide) ?_
    exact ea_iret C hw hf dX11_gone_41
  · replace hf := ea_if_f hc4 hf
    refine lv_aload_n C.1 C.2.1 dX11_gone_8 rfl (lv_at hl 0 rfl) ?_
    refine lv_iload_n C.1 C.2.1 dX11_gone_9 rfl (lv_at hl 2 rfl) ?_
    obtain ⟨r6, M7, he5, hf⟩ := ea_ci_s hf
    refine ea_runi2 hw (cl_X11_264 C hw (hY 100 11 rfl) (As := [.int x2]) (rest := []) (mX11_isCell (l := l) (E := E) (ids := ids) hY he5) (by decide) rfl hl.1 rfl (Nat.le_of_ble_eq_true rfl) dX11_gone_10 ⟨Nat.le_refl _, Nat.le_refl _⟩) (fun H locs hw => ?_)
    refine lv_if_eq (tgt := 39) C.1 C.2.1 dX11_gone_13 (by decide) (fun hc8 => ?_) (fun hc8 => ?_)
    · replace hf := ea_if_t hc8 hf
      refine lv_bipush (v := (-2 : Int32)) C.1 C.2.1 dX11_gone_39 (by decide) ?_
      exact ea_iret C hw hf dX11_gone_41
    · replace hf := ea_if_f hc8 hf
      refine lv_iload_n C.1 C.2.1 dX11_gone_16 rfl (lv_at hl 3 rfl) ?_
      refine lv_iconst (v := 0) C.1 C.2.1 dX11_gone_17 (by decide) ?_
      refine lv_iconst (v := 1) C.1 C.2.1 dX11_gone_18 (by decide) ?_
      obtain ⟨r10, M11, he9, hf⟩ := ea_ci_s hf
      refine ea_runi2 hw (cl_X11_172 C hw (As := [.int x3, .int (0 : Int32), .int (1 : Int32)]) (rest := []) (mX11_in (l := l) (E := E) (ids := ids) hY he9) (by decide) rfl hl.1 rfl (Nat.le_of_ble_eq_true rfl) dX11_gone_19 ⟨Nat.le_refl _, Nat.le_refl _⟩) (fun H locs hw => ?_)
      refine lv_if_eq (tgt := 39) C.1 C.2.1 dX11_gone_22 (by decide) (fun hc12 => ?_) (fun hc12 => ?_)
      · replace hf := ea_if_t hc12 hf
        refine lv_bipush (v := (-2 : Int32)) C.1 C.2.1 dX11_gone_39 (by decide) ?_
        exact ea_iret C hw hf dX11_gone_41
      · replace hf := ea_if_f hc12 hf
        refine lv_aload_n C.1 C.2.1 dX11_gone_25 rfl (lv_at hl 0 rfl) ?_
        refine lv_iload_n C.1 C.2.1 dX11_gone_26 rfl (lv_at hl 1 rfl) ?_
        refine lv_iload_n C.1 C.2.1 dX11_gone_27 rfl (lv_at hl 2 rfl) ?_
        refine lv_iload_n C.1 C.2.1 dX11_gone_28 rfl (lv_at hl 3 rfl) ?_
        refine lv_iconst (v := 0) C.1 C.2.1 dX11_gone_29 (by decide) ?_
        refine lv_iconst (v := 0) C.1 C.2.1 dX11_gone_30 (by decide) ?_
        refine lv_iconst (v := 0) C.1 C.2.1 dX11_gone_31 (by decide) ?_
        refine lv_iconst (v := 1) C.1 C.2.1 dX11_gone_32 (by decide) ?_
        obtain ⟨r14, M15, he13, hf⟩ := ea_ci_s hf
        refine ea_runi2 hw (cl_X11_270 C hw (hY 100 11 rfl) (As := [.int x1, .int x2, .int x3, .int (0 : Int32), .int (0 : Int32), .int (0 : Int32), .int (1 : Int32)]) (rest := []) (mX11_addLook (l := l) (E := E) (ids := ids) hY he13) (by decide) rfl hl.1 rfl (Nat.le_of_ble_eq_true rfl) dX11_gone_33 ⟨Nat.le_refl _, Nat.le_refl _⟩) (fun H locs hw => ?_)
        refine lv_goto (tgt := 41) C.1 C.2.1 dX11_gone_36 (by decide) ?_
        exact ea_iret C hw hf dX11_gone_41
set_option maxHeartbeats 4000000 in
set_option maxRecDepth 20000 in
theorem mX11_gone {l : Launch} {E : eE} {ids : List Nat} (hY : ea_Y ids) {x1 : Int32} {x2 : Int32} {x3 : Int32} {M : eM} {res : Int32 × eM} (hf : fX11_gone x1 x2 x3 M = some res) : ea_Mi l yX11_gone cX11_gone 4 (some .int) 2 43 E ids [.ref (E.1 100), .int x1, .int x2, .int x3] M res := by
  refine ea_goi (by decide) (Nat.le_of_ble_eq_true rfl) wc_X11_gone ?_
  intro p e s m below meth cd ls C hw hl
  exact wX11_gone_0 C hY _ _ _ _ _ _ _ hf hw hl
end SX11_gone

def fX11_grey_0 (x1 : Int32) (x2 : Int32) (x3 : Int32) (x4 : Int32) (x5 : Int32) (M : eM) : Option (Int32 × eM) := ea_ci (fX11_isAsked x1 x2 x3 M) (fun r2 M3 => if r2 = 0 then (some ((-2 : Int32), M3)) else (ea_ci (fX11_isBound x4 M3) (fun r6 M7 => if r6 = 0 then (some ((-2 : Int32), M7)) else (ea_ci (fX11_isColour x5 M7) (fun r10 M11 => if r10 = 0 then (some ((-2 : Int32), M11)) else (ea_cv (fX11_findFits x1 x2 x3 M11) (fun M14 => ea_ci (fX11_greyOf x4 x5 M14) (fun r16 M17 => some (r16, M17)))))))))
def fX11_grey (x1 : Int32) (x2 : Int32) (x3 : Int32) (x4 : Int32) (x5 : Int32) (M : eM) : Option (Int32 × eM) := fX11_grey_0 x1 x2 x3 x4 x5 M
section SX11_grey
variable {p : Program} {l : Launch} {e : Env} {s : State} {m : MethodId} {args : Array Value} {below : List Frame} {meth : Method} {cd : Code} {E : eE} {ids : List Nat} {res : Int32 × eM}
set_option maxHeartbeats 4000000 in
set_option maxRecDepth 20000 in
theorem wX11_grey_0 (C : ea_C p s m args meth cd cX11_grey 6 (some .int) RX11) (hY : ea_Y ids) : ∀ (x1 : Int32) (x2 : Int32) (x3 : Int32) (x4 : Int32) (x5 : Int32) (M : eM) (H : Heap) (locs : List Loc) (ls : Array Slot), fX11_grey_0 x1 x2 x3 x4 x5 M = some res → ea_w E ids M s H locs → lv_has ls 6 [(0, .ref (E.1 100)), (1, .int x1), (2, .int x2), (3, .int x3), (4, .int x4), (5, .int x5)] → W p l e (ea_rm 6 143) s m args below meth cd H locs 0 0 (MQ below (ea_Qi E ids res) args s 0 0 (ea_Ad E ids)) (F0 m 0 ls []) := by
  intro x1 x2 x3 x4 x5 M H locs ls hf  hw hl
  replace hf := (fX11_grey_0.eq_1 ..).symm.trans hf
  refine lv_aload_n C.1 C.2.1 dX11_grey_0 rfl (lv_at hl 0 rfl) ?_
  refine lv_iload_n C.1 C.2.1 dX11_grey_1 rfl (lv_at hl 1 rfl) ?_
  refine lv_iload_n C.1 C.2.1 dX11_grey_2 rfl (lv_at hl 2 rfl) ?_
  refine lv_iload_n C.1 C.2.1 dX11_grey_3 rfl (lv_at hl 3 rfl) ?_
  obtain ⟨r2, M3, he1, hf⟩ := ea_ci_s hf
  refine ea_runi2 hw (cl_X11_310 C hw (hY 100 11 rfl) (As := [.int x1, .int x2, .int x3]) (rest := []) (mX11_isAsked (l := l) (E := E) (ids := ids) hY he1) (by decide) rfl hl.1 rfl (Nat.le_of_ble_eq_true rfl) dX11_grey_4 ⟨Nat.le_refl _, Nat.le_refl _⟩) (fun H locs hw => ?_)
  refine lv_if_eq (tgt := 26) C.1 C.2.1 dX11_grey_7 (by decide) (fun hc4 => ?_) (fun hc4 => ?_)
  · replace hf := ea_if_t hc4 hf
    refine lv_bipush (v := (-2 : Int32)) C.1 C.2.1 dX11_grey_26 (by decide) ?_
    exact ea_iret C hw hf dX11_grey_28
  · replace hf := ea_if_f hc4 hf
    refine lv_iload C.1 C.2.1 dX11_grey_10 (lv_at hl 4 rfl) ?_
    obtain ⟨r6, M7, he5, hf⟩ := ea_ci_s hf
    refine ea_runi2 hw (cl_X11_320 C hw (As := [.int x4]) (rest := []) (mX11_isBound (l := l) (E := E) (ids := ids) hY he5) (by decide) rfl hl.1 rfl (Nat.le_of_ble_eq_true rfl) dX11_grey_12 ⟨Nat.le_refl _, Nat.le_refl _⟩) (fun H locs hw => ?_)
    refine lv_if_eq (tgt := 26) C.1 C.2.1 dX11_grey_15 (by decide) (fun hc8 => ?_) (fun hc8 => ?_)
    · replace hf := ea_if_t hc8 hf
      refine lv_bipush (v := (-2 : Int32)) C.1 C.2.1 dX11_grey_26 (by decide) ?_
      exact ea_iret C hw hf dX11_grey_28
    · replace hf := ea_if_f hc8 hf
      refine lv_iload C.1 C.2.1 dX11_grey_18 (lv_at hl 5 rfl) ?_
      obtain ⟨r10, M11, he9, hf⟩ := ea_ci_s hf
      refine ea_runi2 hw (cl_X11_254 C hw (As := [.int x5]) (rest := []) (mX11_isColour (l := l) (E := E) (ids := ids) hY he9) (by decide) rfl hl.1 rfl (Nat.le_of_ble_eq_true rfl) dX11_grey_20 ⟨Nat.le_refl _, Nat.le_refl _⟩) (fun H locs hw => ?_)
      refine lv_if_ne (tgt := 29) C.1 C.2.1 dX11_grey_23 (by decide) (fun hc12 => ?_) (fun hc12 => ?_)
      · replace hf := ea_if_f hc12 hf
        refine lv_aload_n C.1 C.2.1 dX11_grey_29 rfl (lv_at hl 0 rfl) ?_
        refine lv_iload_n C.1 C.2.1 dX11_grey_30 rfl (lv_at hl 1 rfl) ?_
        refine lv_iload_n C.1 C.2.1 dX11_grey_31 rfl (lv_at hl 2 rfl) ?_
        refine lv_iload_n C.1 C.2.1 dX11_grey_32 rfl (lv_at hl 3 rfl) ?_
        obtain ⟨M14, he13, hf⟩ := ea_cv_s hf
        refine ea_runv hw (cl_X11_313 C hw (hY 100 11 rfl) (As := [.int x1, .int x2, .int x3]) (rest := []) (mX11_findFits (l := l) (E := E) (ids := ids) hY he13) (by decide) rfl hl.1 rfl (Nat.le_of_ble_eq_true rfl) dX11_grey_33 ⟨Nat.le_refl _, Nat.le_refl _⟩) (fun H locs hw => ?_)
        refine lv_aload_n C.1 C.2.1 dX11_grey_36 rfl (lv_at hl 0 rfl) ?_
        refine lv_iload C.1 C.2.1 dX11_grey_37 (lv_at hl 4 rfl) ?_
        refine lv_iload C.1 C.2.1 dX11_grey_39 (lv_at hl 5 rfl) ?_
        obtain ⟨r16, M17, he15, hf⟩ := ea_ci_s hf
        refine ea_runi2 hw (cl_X11_323 C hw (hY 100 11 rfl) (As := [.int x4, .int x5]) (rest := []) (mX11_greyOf (l := l) (E := E) (ids := ids) hY he15) (by decide) rfl hl.1 rfl (Nat.le_of_ble_eq_true rfl) dX11_grey_41 ⟨Nat.le_refl _, Nat.le_refl _⟩) (fun H locs hw => ?_)
        exact ea_iret C hw hf dX11_grey_44
      · replace hf := ea_if_t hc12 hf
        refine lv_bipush (v := (-2 : Int32)) C.1 C.2.1 dX11_grey_26 (by decide) ?_
        exact ea_iret C hw hf dX11_grey_28
set_option maxHeartbeats 4000000 in
set_option maxRecDepth 20000 in
theorem mX11_grey {l : Launch} {E : eE} {ids : List Nat} (hY : ea_Y ids) {x1 : Int32} {x2 : Int32} {x3 : Int32} {x4 : Int32} {x5 : Int32} {M : eM} {res : Int32 × eM} (hf : fX11_grey x1 x2 x3 x4 x5 M = some res) : ea_Mi l yX11_grey cX11_grey 6 (some .int) 6 143 E ids [.ref (E.1 100), .int x1, .int x2, .int x3, .int x4, .int x5] M res := by
  refine ea_goi (by decide) (Nat.le_of_ble_eq_true rfl) wc_X11_grey ?_
  intro p e s m below meth cd ls C hw hl
  exact wX11_grey_0 C hY _ _ _ _ _ _ _ _ _ hf hw hl
end SX11_grey

def fX11_hours_0 (x1 : Int32) (x2 : Int32) (x3 : Int32) (x4 : Int32) (M : eM) : Option (Int32 × eM) := ea_ci (fX11_isStory x1 M) (fun r2 M3 => if r2 = 0 then (some ((-2 : Int32), M3)) else (ea_ci (fX11_in x2 (0 : Int32) ((M3.1 102 (0 : Int32).toNatClampNeg) - (1 : Int32)) M3) (fun r6 M7 => if r6 = 0 then (some ((-2 : Int32), M7)) else (ea_ci (fX11_in x3 (0 : Int32) (999 : Int32) M7) (fun r10 M11 => if r10 = 0 then (some ((-2 : Int32), M11)) else (ea_ci (fX11_in x4 (0 : Int32) (1 : Int32) M11) (fun r14 M15 => if r14 = 0 then (some ((-2 : Int32), M15)) else (ea_ci (fX11_hoursOf x1 x2 x3 x4 M15) (fun r18 M19 => some (r18, M19))))))))))
def fX11_hours (x1 : Int32) (x2 : Int32) (x3 : Int32) (x4 : Int32) (M : eM) : Option (Int32 × eM) := fX11_hours_0 x1 x2 x3 x4 M
section SX11_hours
variable {p : Program} {l : Launch} {e : Env} {s : State} {m : MethodId} {args : Array Value} {below : List Frame} {meth : Method} {cd : Code} {E : eE} {ids : List Nat} {res : Int32 × eM}
set_option maxHeartbeats 4000000 in
set_option maxRecDepth 20000 in
theorem wX11_hours_0 (C : ea_C p s m args meth cd cX11_hours 5 (some .int) RX11) (hY : ea_Y ids) : ∀ (x1 : Int32) (x2 : Int32) (x3 : Int32) (x4 : Int32) (M : eM) (H : Heap) (locs : List Loc) (ls : Array Slot), fX11_hours_0 x1 x2 x3 x4 M = some res → ea_w E ids M s H locs → lv_has ls 5 [(0, .ref (E.1 100)), (1, .int x1), (2, .int x2), (3, .int x3), (4, .int x4)] → W p l e (ea_rm 2 54) s m args below meth cd H locs 0 0 (MQ below (ea_Qi E ids res) args s 0 0 (ea_Ad E ids)) (F0 m 0 ls []) := by
  intro x1 x2 x3 x4 M H locs ls hf  hw hl
  replace hf := (fX11_hours_0.eq_1 ..).symm.trans hf
  refine lv_aload_n C.1 C.2.1 dX11_hours_0 rfl (lv_at hl 0 rfl) ?_
  refine lv_iload_n C.1 C.2.1 dX11_hours_1 rfl (lv_at hl 1 rfl) ?_
  obtain ⟨r2, M3, he1, hf⟩ := ea_ci_s hf
  refine ea_runi2 hw (cl_X11_225 C hw (hY 100 11 rfl) (As := [.int x1]) (rest := []) (mX11_isStory (l := l) (E := E) (ids := ids) hY he1) (by decide) rfl hl.1 rfl (Nat.le_of_ble_eq_true rfl) dX11_hours_2 ⟨Nat.le_refl _, Nat.le_refl _⟩) (fun H locs hw => ?_)
  refine lv_if_eq (tgt := 57) C.1 C.2.1 dX11_hours_5 (by decide) (fun hc4 => ?_) (fun hc4 => ?_)
  · replace hf := ea_if_t hc4 hf
    refine lv_bipush (v := (-2 : Int32)) C.1 C.2.1 dX11_hours_57 (by decide) ?_
    exact ea_iret C hw hf dX11_hours_59
  · replace hf := ea_if_f hc4 hf
    refine lv_iload_n C.1 C.2.1 dX11_hours_8 rfl (lv_at hl 2 rfl) ?_
    refine lv_iconst (v := 0) C.1 C.2.1 dX11_hours_9 (by decide) ?_
    refine lv_aload_n C.1 C.2.1 dX11_hours_10 rfl (lv_at hl 0 rfl) ?_
    refine gf_X11_17 C hw (hY 100 11 rfl) dX11_hours_11 ?_
    refine W.eq (g2 := F0 m 14 ls [.ref (E.1 102), .int (0 : Int32), .int x2]) rfl ?_
    refine lv_iconst (v := 0) C.1 C.2.1 dX11_hours_14 (by decide) ?_
    refine ea_iald C hw (show ea_ok ids 102 20 from ok_11_12 (hY 100 11 rfl)) (by decide) dX11_hours_15 ?_
    refine lv_iconst (v := 1) C.1 C.2.1 dX11_hours_16 (by decide) ?_
    refine lv_isub C.1 C.2.1 dX11_hours_17 ?_
    obtain ⟨r6, M7, he5, hf⟩ := ea_ci_s hf
    refine ea_runi2 hw (cl_X11_172 C hw (As := [.int x2, .int (0 : Int32), .int ((M3.1 102 (0 : Int32).toNatClampNeg) - (1 : Int32))]) (rest := []) (mX11_in (l := l) (E := E) (ids := ids) hY he5) (by decide) rfl hl.1 rfl (Nat.le_of_ble_eq_true rfl) dX11_hours_18 ⟨Nat.le_refl _, Nat.le_refl _⟩) (fun H locs hw => ?_)
    refine lv_if_eq (tgt := 57) C.1 C.2.1 dX11_hours_21 (by decide) (fun hc8 => ?_) (fun hc8 => ?_)
    · replace hf := ea_if_t hc8 hf
      refine lv_bipush (v := (-2 : Int32)) C.1 C.2.1 dX11_hours_57 (by decide) ?_
      exact ea_iret C hw hf dX11_hours_59
    · replace hf := ea_if_f hc8 hf
      refine lv_iload_n C.1 C.2.1 dX11_hours_24 rfl (lv_at hl 3 rfl) ?_
      refine lv_iconst (v := 0) C.1 C.2.1 dX11_hours_25 (by decide) ?_
      refine lv_sipush (v := 999) C.1 C.2.1 dX11_hours_26 (by decide) ?_
      obtain ⟨r10, M11, he9, hf⟩ := ea_ci_s hf
      refine ea_runi2 hw (cl_X11_172 C hw (As := [.int x3, .int (0 : Int32), .int (999 : Int32)]) (rest := []) (mX11_in (l := l) (E := E) (ids := ids) hY he9) (by decide) rfl hl.1 rfl (Nat.le_of_ble_eq_true rfl) dX11_hours_29 ⟨Nat.le_refl _, Nat.le_refl _⟩) (fun H locs hw => ?_)
      refine lv_if_eq (tgt := 57) C.1 C.2.1 dX11_hours_32 (by decide) (fun hc12 => ?_) (fun hc12 => ?_)
      · replace hf := ea_if_t hc12 hf
        refine lv_bipush (v := (-2 : Int32)) C.1 C.2.1 dX11_hours_57 (by decide) ?_
        exact ea_iret C hw hf dX11_hours_59
      · replace hf := ea_if_f hc12 hf
        refine lv_iload C.1 C.2.1 dX11_hours_35 (lv_at hl 4 rfl) ?_
        refine lv_iconst (v := 0) C.1 C.2.1 dX11_hours_37 (by decide) ?_
        refine lv_iconst (v := 1) C.1 C.2.1 dX11_hours_38 (by decide) ?_
        obtain ⟨r14, M15, he13, hf⟩ := ea_ci_s hf
        refine ea_runi2 hw (cl_X11_172 C hw (As := [.int x4, .int (0 : Int32), .int (1 : Int32)]) (rest := []) (mX11_in (l := l) (E := E) (ids := ids) hY he13) (by decide) rfl hl.1 rfl (Nat.le_of_ble_eq_true rfl) dX11_hours_39 ⟨Nat.le_refl _, Nat.le_refl _⟩) (fun H locs hw => ?_)
        refine lv_if_eq (tgt := 57) C.1 C.2.1 dX11_hours_42 (by decide) (fun hc16 => ?_) (fun hc16 => ?_)
        · replace hf := ea_if_t hc16 hf
          refine lv_bipush (v := (-2 : Int32)) C.1 C.2.1 dX11_hours_57 (by decide) ?_
          exact ea_iret C hw hf dX11_hours_59
        · replace hf := ea_if_f hc16 hf
          refine lv_aload_n C.1 C.2.1 dX11_hours_45 rfl (lv_at hl 0 rfl) ?_
          refine lv_iload_n C.1 C.2.1 dX11_hours_46 rfl (lv_at hl 1 rfl) ?_
          refine lv_iload_n C.1 C.2.1 dX11_hours_47 rfl (lv_at hl 2 rfl) ?_
          refine lv_iload_n C.1 C.2.1 dX11_hours_48 rfl (lv_at hl 3 rfl) ?_
          refine lv_iload C.1 C.2.1 dX11_hours_49 (lv_at hl 4 rfl) ?_
          obtain ⟨r18, M19, he17, hf⟩ := ea_ci_s hf
          refine ea_runi2 hw (cl_X11_244 C hw (hY 100 11 rfl) (As := [.int x1, .int x2, .int x3, .int x4]) (rest := []) (mX11_hoursOf (l := l) (E := E) (ids := ids) hY he17) (by decide) rfl hl.1 rfl (Nat.le_of_ble_eq_true rfl) dX11_hours_51 ⟨Nat.le_refl _, Nat.le_refl _⟩) (fun H locs hw => ?_)
          refine lv_goto (tgt := 59) C.1 C.2.1 dX11_hours_54 (by decide) ?_
          exact ea_iret C hw hf dX11_hours_59
set_option maxHeartbeats 4000000 in
set_option maxRecDepth 20000 in
theorem mX11_hours {l : Launch} {E : eE} {ids : List Nat} (hY : ea_Y ids) {x1 : Int32} {x2 : Int32} {x3 : Int32} {x4 : Int32} {M : eM} {res : Int32 × eM} (hf : fX11_hours x1 x2 x3 x4 M = some res) : ea_Mi l yX11_hours cX11_hours 5 (some .int) 2 54 E ids [.ref (E.1 100), .int x1, .int x2, .int x3, .int x4] M res := by
  refine ea_goi (by decide) (Nat.le_of_ble_eq_true rfl) wc_X11_hours ?_
  intro p e s m below meth cd ls C hw hl
  exact wX11_hours_0 C hY _ _ _ _ _ _ _ _ hf hw hl
end SX11_hours

def fX11_isSlot_0 (x0 : Int32) (M : eM) : Option (Int32 × eM) := ea_ci (fX11_in x0 (0 : Int32) (2 : Int32) M) (fun r2 M3 => ea_ck (ea_01 r2) (some (r2, M3)))
def fX11_isSlot (x0 : Int32) (M : eM) : Option (Int32 × eM) := fX11_isSlot_0 x0 M
section SX11_isSlot
variable {p : Program} {l : Launch} {e : Env} {s : State} {m : MethodId} {args : Array Value} {below : List Frame} {meth : Method} {cd : Code} {E : eE} {ids : List Nat} {res : Int32 × eM}
set_option maxHeartbeats 4000000 in
set_option maxRecDepth 20000 in
theorem wX11_isSlot_0 (C : ea_C p s m args meth cd cX11_isSlot 1 (some .boolean) RX11) (hY : ea_Y ids) : ∀ (x0 : Int32) (M : eM) (H : Heap) (locs : List Loc) (ls : Array Slot), fX11_isSlot_0 x0 M = some res → ea_w E ids M s H locs → lv_has ls 1 [(0, .int x0)] → W p l e (ea_rm 1 22) s m args below meth cd H locs 0 0 (MQ below (ea_Qi E ids res) args s 0 0 (ea_Ad E ids)) (F0 m 0 ls []) := by
  intro x0 M H locs ls hf  hw hl
  replace hf := (fX11_isSlot_0.eq_1 ..).symm.trans hf
  refine lv_iload_n C.1 C.2.1 dX11_isSlot_0 rfl (lv_at hl 0 rfl) ?_
  refine lv_iconst (v := 0) C.1 C.2.1 dX11_isSlot_1 (by decide) ?_
  refine lv_iconst (v := 2) C.1 C.2.1 dX11_isSlot_2 (by decide) ?_
  obtain ⟨r2, M3, he1, hf⟩ := ea_ci_s hf
  refine ea_runi2 hw (cl_X11_172 C hw (As := [.int x0, .int (0 : Int32), .int (2 : Int32)]) (rest := []) (mX11_in (l := l) (E := E) (ids := ids) hY he1) (by decide) rfl hl.1 rfl (Nat.le_of_ble_eq_true rfl) dX11_isSlot_3 ⟨Nat.le_refl _, Nat.le_refl _⟩) (fun H locs hw => ?_)
  obtain ⟨hc4, hf⟩ := ea_ck_s hf
  exact ea_zret C hw (ea_01_s hc4) hf dX11_isSlot_6
set_option maxHeartbeats 4000000 in
set_option maxRecDepth 20000 in
theorem mX11_isSlot {l : Launch} {E : eE} {ids : List Nat} (hY : ea_Y ids) {x0 : Int32} {M : eM} {res : Int32 × eM} (hf : fX11_isSlot x0 M = some res) : ea_Mi l yX11_isSlot cX11_isSlot 1 (some .boolean) 1 22 E ids [.int x0] M res := by
  refine ea_goi (by decide) (Nat.le_of_ble_eq_true rfl) wc_X11_isSlot ?_
  intro p e s m below meth cd ls C hw hl
  exact wX11_isSlot_0 C hY _ _ _ _ _ hf hw hl
end SX11_isSlot

def fX11_isStuff_0 (x1 : Int32) (M : eM) : Option (Int32 × eM) := ea_ci (fX11_in x1 (0 : Int32) ((M.1 102 (4 : Int32).toNatClampNeg) - (1 : Int32)) M) (fun r2 M3 => ea_ck (ea_01 r2) (some (r2, M3)))
def fX11_isStuff (x1 : Int32) (M : eM) : Option (Int32 × eM) := fX11_isStuff_0 x1 M
section SX11_isStuff
variable {p : Program} {l : Launch} {e : Env} {s : State} {m : MethodId} {args : Array Value} {below : List Frame} {meth : Method} {cd : Code} {E : eE} {ids : List Nat} {res : Int32 × eM}
set_option maxHeartbeats 4000000 in
set_option maxRecDepth 20000 in
theorem wX11_isStuff_0 (C : ea_C p s m args meth cd cX11_isStuff 2 (some .boolean) RX11) (hY : ea_Y ids) : ∀ (x1 : Int32) (M : eM) (H : Heap) (locs : List Loc) (ls : Array Slot), fX11_isStuff_0 x1 M = some res → ea_w E ids M s H locs → lv_has ls 2 [(0, .ref (E.1 100)), (1, .int x1)] → W p l e (ea_rm 1 22) s m args below meth cd H locs 0 0 (MQ below (ea_Qi E ids res) args s 0 0 (ea_Ad E ids)) (F0 m 0 ls []) := by
  intro x1 M H locs ls hf  hw hl
  replace hf := (fX11_isStuff_0.eq_1 ..).symm.trans hf
  refine lv_iload_n C.1 C.2.1 dX11_isStuff_0 rfl (lv_at hl 1 rfl) ?_
  refine lv_iconst (v := 0) C.1 C.2.1 dX11_isStuff_1 (by decide) ?_
  refine lv_aload_n C.1 C.2.1 dX11_isStuff_2 rfl (lv_at hl 0 rfl) ?_
  refine gf_X11_17 C hw (hY 100 11 rfl) dX11_isStuff_3 ?_
  refine W.eq (g2 := F0 m 6 ls [.ref (E.1 102), .int (0 : Int32), .int x1]) rfl ?_
  refine lv_iconst (v := 4) C.1 C.2.1 dX11_isStuff_6 (by decide) ?_
  refine ea_iald C hw (show ea_ok ids 102 20 from ok_11_12 (hY 100 11 rfl)) (by decide) dX11_isStuff_7 ?_
  refine lv_iconst (v := 1) C.1 C.2.1 dX11_isStuff_8 (by decide) ?_
  refine lv_isub C.1 C.2.1 dX11_isStuff_9 ?_
  obtain ⟨r2, M3, he1, hf⟩ := ea_ci_s hf
  refine ea_runi2 hw (cl_X11_172 C hw (As := [.int x1, .int (0 : Int32), .int ((M.1 102 (4 : Int32).toNatClampNeg) - (1 : Int32))]) (rest := []) (mX11_in (l := l) (E := E) (ids := ids) hY he1) (by decide) rfl hl.1 rfl (Nat.le_of_ble_eq_true rfl) dX11_isStuff_10 ⟨Nat.le_refl _, Nat.le_refl _⟩) (fun H locs hw => ?_)
  obtain ⟨hc4, hf⟩ := ea_ck_s hf
  exact ea_zret C hw (ea_01_s hc4) hf dX11_isStuff_13
set_option maxHeartbeats 4000000 in
set_option maxRecDepth 20000 in
theorem mX11_isStuff {l : Launch} {E : eE} {ids : List Nat} (hY : ea_Y ids) {x1 : Int32} {M : eM} {res : Int32 × eM} (hf : fX11_isStuff x1 M = some res) : ea_Mi l yX11_isStuff cX11_isStuff 2 (some .boolean) 1 22 E ids [.ref (E.1 100), .int x1] M res := by
  refine ea_goi (by decide) (Nat.le_of_ble_eq_true rfl) wc_X11_isStuff ?_
  intro p e s m below meth cd ls C hw hl
  exact wX11_isStuff_0 C hY _ _ _ _ _ hf hw hl
end SX11_isStuff

def fX11_keep_19 (k52 : eM → Option (Int32 × eM)) : Nat → Int32 → Int32 → eM → Option (Int32 × eM)
  | 0, _, _, _ => none
  | n + 1, x1, x2, M => if (854 : Int32) ≤ x2 then (k52 M) else (ea_ck (ea_ix x2 (ea_len 114)) (ea_ck (ea_ix (((854 : Int32) * (x1 + (1 : Int32))) + x2) (ea_len 114)) (fX11_keep_19 k52 n x1 (x2 + (1 : Int32)) (ea_pI M 114 ((((854 : Int32) * (x1 + (1 : Int32))) + x2).toNatClampNeg) (M.1 114 x2.toNatClampNeg)))))
def fX11_keep_52 (M : eM) : Option (Int32 × eM) := some (M.1 114 (0 : Int32).toNatClampNeg, M)
def fX11_keep_0 (x1 : Int32) (M : eM) : Option (Int32 × eM) := ea_ci (fX11_isSlot x1 M) (fun r2 M3 => if r2 = 0 then (some ((-2 : Int32), M3)) else (ea_ck (ea_ix x1 (ea_len 115)) (fX11_keep_19 (fX11_keep_52) ea_N x1 (0 : Int32) (ea_pI M3 115 (x1.toNatClampNeg) (vp_nar .boolean (1 : Int32))))))
def fX11_keep (x1 : Int32) (M : eM) : Option (Int32 × eM) := fX11_keep_0 x1 M
section SX11_keep
variable {p : Program} {l : Launch} {e : Env} {s : State} {m : MethodId} {args : Array Value} {below : List Frame} {meth : Method} {cd : Code} {E : eE} {ids : List Nat} {res : Int32 × eM}
set_option maxHeartbeats 4000000 in
set_option maxRecDepth 20000 in
theorem wX11_keep_19 (C : ea_C p s m args meth cd cX11_keep 3 (some .int) RX11) (hY : ea_Y ids) {k52 : eM → Option (Int32 × eM)} (hk52 : ∀  (M : eM) (H : Heap) (locs : List Loc) (ls : Array Slot), k52 M = some res → ea_w E ids M s H locs → lv_has ls 3 [(0, .ref (E.1 100))] → W p l e (ea_rm 2 42) s m args below meth cd H locs 0 0 (MQ below (ea_Qi E ids res) args s 0 0 (ea_Ad E ids)) (F0 m 52 ls [])) : ∀ (n : Nat) (x1 : Int32) (x2 : Int32) (M : eM) (H : Heap) (locs : List Loc) (ls : Array Slot), fX11_keep_19 k52 n x1 x2 M = some res → ea_w E ids M s H locs → lv_has ls 3 [(0, .ref (E.1 100)), (1, .int x1), (2, .int x2)] → W p l e (ea_rm 2 42) s m args below meth cd H locs 0 0 (MQ below (ea_Qi E ids res) args s 0 0 (ea_Ad E ids)) (F0 m 19 ls []) := by
  intro n
  induction n with
  | zero => intro x1 x2 M H locs ls hf; cases hf
  | succ n ih =>
    intro x1 x2 M H locs ls hf  hw hl
    replace hf := (fX11_keep_19.eq_2 ..).symm.trans hf
    refine lv_iload_n C.1 C.2.1 dX11_keep_19 rfl (lv_at hl 2 rfl) ?_
    refine lv_sipush (v := 854) C.1 C.2.1 dX11_keep_20 (by decide) ?_
    refine lv_icmp_ge (tgt := 52) C.1 C.2.1 dX11_keep_23 (by decide) (fun hc1 => ?_) (fun hc1 => ?_)
    · replace hf := ea_if_t hc1 hf
      exact hk52 _ _ _ _ hf hw (lv_sub hl [0] rfl)
    · replace hf := ea_if_f hc1 hf
      refine lv_aload_n C.1 C.2.1 dX11_keep_26 rfl (lv_at hl 0 rfl) ?_
      refine gf_X11_55 C hw (hY 100 11 rfl) dX11_keep_27 ?_
      refine W.eq (g2 := F0 m 30 ls [.ref (E.1 114)]) rfl ?_
      refine lv_sipush (v := 854) C.1 C.2.1 dX11_keep_30 (by decide) ?_
      refine lv_iload_n C.1 C.2.1 dX11_keep_33 rfl (lv_at hl 1 rfl) ?_
      refine lv_iconst (v := 1) C.1 C.2.1 dX11_keep_34 (by decide) ?_
      refine lv_iadd C.1 C.2.1 dX11_keep_35 ?_
      refine lv_imul C.1 C.2.1 dX11_keep_36 ?_
      refine lv_iload_n C.1 C.2.1 dX11_keep_37 rfl (lv_at hl 2 rfl) ?_
      refine lv_iadd C.1 C.2.1 dX11_keep_38 ?_
      refine lv_aload_n C.1 C.2.1 dX11_keep_39 rfl (lv_at hl 0 rfl) ?_
      refine gf_X11_55 C hw (hY 100 11 rfl) dX11_keep_40 ?_
      refine W.eq (g2 := F0 m 43 ls [.ref (E.1 114), .int (((854 : Int32) * (x1 + (1 : Int32))) + x2), .ref (E.1 114)]) rfl ?_
      refine lv_iload_n C.1 C.2.1 dX11_keep_43 rfl (lv_at hl 2 rfl) ?_
      obtain ⟨hc2, hf⟩ := ea_ck_s hf
      refine ea_iald C hw (show ea_ok ids 114 20 from ok_11_27 (hY 100 11 rfl)) hc2 dX11_keep_44 ?_
      obtain ⟨hc3, hf⟩ := ea_ck_s hf
      refine ea_iast C hw (show ea_ok ids 114 20 from ok_11_27 (hY 100 11 rfl)) hc3 dX11_keep_45 (fun H locs hw => ?_)
      refine lv_iinc (v := x2 + (1 : Int32)) (lv' := [(2, .int (x2 + (1 : Int32))), (0, .ref (E.1 100)), (1, .int x1)]) C.1 C.2.1 dX11_keep_46 hl (k := 2) rfl rfl (by decide) rfl (fun ls hl => ?_)
      refine lv_goto (tgt := 19) C.1 C.2.1 dX11_keep_49 (by decide) ?_
      exact ih _ _ _ _ _ _ hf hw (lv_sub hl [1, 2, 0] rfl)
set_option maxHeartbeats 4000000 in
set_option maxRecDepth 20000 in
theorem wX11_keep_52 (C : ea_C p s m args meth cd cX11_keep 3 (some .int) RX11) (hY : ea_Y ids) : ∀  (M : eM) (H : Heap) (locs : List Loc) (ls : Array Slot), fX11_keep_52 M = some res → ea_w E ids M s H locs → lv_has ls 3 [(0, .ref (E.1 100))] → W p l e (ea_rm 2 42) s m args below meth cd H locs 0 0 (MQ below (ea_Qi E ids res) args s 0 0 (ea_Ad E ids)) (F0 m 52 ls []) := by
  intro M H locs ls hf  hw hl
  replace hf := (fX11_keep_52.eq_1 ..).symm.trans hf
  refine lv_aload_n C.1 C.2.1 dX11_keep_52 rfl (lv_at hl 0 rfl) ?_
  refine gf_X11_55 C hw (hY 100 11 rfl) dX11_keep_53 ?_
  refine W.eq (g2 := F0 m 56 ls [.ref (E.1 114)]) rfl ?_
  refine lv_iconst (v := 0) C.1 C.2.1 dX11_keep_56 (by decide) ?_
  refine ea_iald C hw (show ea_ok ids 114 20 from ok_11_27 (hY 100 11 rfl)) (by decide) dX11_keep_57 ?_
  exact ea_iret C hw hf dX11_keep_58
set_option maxHeartbeats 4000000 in
set_option maxRecDepth 20000 in
theorem wX11_keep_0 (C : ea_C p s m args meth cd cX11_keep 3 (some .int) RX11) (hY : ea_Y ids) : ∀ (x1 : Int32) (M : eM) (H : Heap) (locs : List Loc) (ls : Array Slot), fX11_keep_0 x1 M = some res → ea_w E ids M s H locs → lv_has ls 3 [(0, .ref (E.1 100)), (1, .int x1)] → W p l e (ea_rm 2 42) s m args below meth cd H locs 0 0 (MQ below (ea_Qi E ids res) args s 0 0 (ea_Ad E ids)) (F0 m 0 ls []) := by
  intro x1 M H locs ls hf  hw hl
  replace hf := (fX11_keep_0.eq_1 ..).symm.trans hf
  refine lv_iload_n C.1 C.2.1 dX11_keep_0 rfl (lv_at hl 1 rfl) ?_
  obtain ⟨r2, M3, he1, hf⟩ := ea_ci_s hf
  refine ea_runi2 hw (cl_X11_280 C hw (As := [.int x1]) (rest := []) (mX11_isSlot (l := l) (E := E) (ids := ids) hY he1) (by decide) rfl hl.1 rfl (Nat.le_of_ble_eq_true rfl) dX11_keep_1 ⟨Nat.le_refl _, Nat.le_refl _⟩) (fun H locs hw => ?_)
  refine lv_if_ne (tgt := 10) C.1 C.2.1 dX11_keep_4 (by decide) (fun hc4 => ?_) (fun hc4 => ?_)
  · replace hf := ea_if_f hc4 hf
    refine lv_aload_n C.1 C.2.1 dX11_keep_10 rfl (lv_at hl 0 rfl) ?_
    refine gf_X11_58 C hw (hY 100 11 rfl) dX11_keep_11 ?_
    refine W.eq (g2 := F0 m 14 ls [.ref (E.1 115)]) rfl ?_
    refine lv_iload_n C.1 C.2.1 dX11_keep_14 rfl (lv_at hl 1 rfl) ?_
    refine lv_iconst (v := 1) C.1 C.2.1 dX11_keep_15 (by decide) ?_
    obtain ⟨hc5, hf⟩ := ea_ck_s hf
    refine ea_zast C hw (show ea_ok ids 115 23 from ok_11_28 (hY 100 11 rfl)) hc5 dX11_keep_16 (fun H locs hw => ?_)
    refine lv_iconst (v := 0) C.1 C.2.1 dX11_keep_17 (by decide) ?_
    refine lv_istore_n (lv' := [(2, .int (0 : Int32)), (0, .ref (E.1 100)), (1, .int x1)]) C.1 C.2.1 dX11_keep_18 rfl hl (by decide) rfl (fun ls hl => ?_)
    exact wX11_keep_19 C hY (wX11_keep_52 C hY) ea_N _ _ _ _ _ _ hf hw (lv_sub hl [1, 2, 0] rfl)
  · replace hf := ea_if_t hc4 hf
    refine lv_bipush (v := (-2 : Int32)) C.1 C.2.1 dX11_keep_7 (by decide) ?_
    exact ea_iret C hw hf dX11_keep_9
set_option maxHeartbeats 4000000 in
set_option maxRecDepth 20000 in
theorem mX11_keep {l : Launch} {E : eE} {ids : List Nat} (hY : ea_Y ids) {x1 : Int32} {M : eM} {res : Int32 × eM} (hf : fX11_keep x1 M = some res) : ea_Mi l yX11_keep cX11_keep 3 (some .int) 2 42 E ids [.ref (E.1 100), .int x1] M res := by
  refine ea_goi (by decide) (Nat.le_of_ble_eq_true rfl) wc_X11_keep ?_
  intro p e s m below meth cd ls C hw hl
  exact wX11_keep_0 C hY _ _ _ _ _ hf hw hl
end SX11_keep
