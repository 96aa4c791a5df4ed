def fX8_triedShade_0 (a0 : Nat) (x1 : Int32) (x2 : Int32) (x3 : Int32) (M : eM) : Option (Int32 × eM) := ea_ci (fX8_latestRight a0 x1 x2 M) (fun r2 M3 => if r2 = (-1 : Int32) then (ea_ck (ea_ix (((x1 * (6 : Int32)) + (3 : Int32)) + x3) (ea_len (a0 + 2))) (some (M3.1 (a0 + 2) (((x1 * (6 : Int32)) + (3 : Int32)) + x3).toNatClampNeg, M3))) else (ea_ck (ea_ix (((r2 * (6 : Int32)) + (3 : Int32)) + x3) (ea_len (a0 + 3))) (some (M3.1 (a0 + 3) (((r2 * (6 : Int32)) + (3 : Int32)) + x3).toNatClampNeg, M3))))
def fX8_triedShade (a0 : Nat) (x1 : Int32) (x2 : Int32) (x3 : Int32) (M : eM) : Option (Int32 × eM) := fX8_triedShade_0 a0 x1 x2 x3 M
section SX8_triedShade
variable {p : Program} {l : Launch} {e : Env} {s : State} {m : MethodId} {args : Array Value} {below : List Frame} {meth : Method} {cd : Code} {E : eE} {ids : List Nat} {res : Int32 × eM} {a0 : Nat}
set_option maxHeartbeats 4000000 in
set_option maxRecDepth 20000 in
theorem wX8_triedShade_0 (C : ea_C p s m args meth cd cX8_triedShade 5 (some .int) RX8) (hX : ea_X ids) (ho0 : ea_ok ids a0 8) : ∀ (x1 : Int32) (x2 : Int32) (x3 : Int32) (M : eM) (H : Heap) (locs : List Loc) (ls : Array Slot), fX8_triedShade_0 a0 x1 x2 x3 M = some res → ea_w E ids M s H locs → lv_has ls 5 [(0, .ref (E.1 a0)), (1, .int x1), (2, .int x2), (3, .int x3)] → W p l e (ea_rm 1 23) s m args below meth cd H locs 0 0 (MQ below (ea_Qi E ids res) args s 0 0 (ea_Ad E ids)) (F0 m 0 ls []) := by
  intro x1 x2 x3 M H locs ls hf  hw hl
  replace hf := (fX8_triedShade_0.eq_1 ..).symm.trans hf
  refine lv_aload_n C.1 C.2.1 dX8_triedShade_0 rfl (lv_at hl 0 rfl) ?_
  refine lv_iload_n C.1 C.2.1 dX8_triedShade_1 rfl (lv_at hl 1 rfl) ?_
  refine lv_iload_n C.1 C.2.1 dX8_triedShade_2 rfl (lv_at hl 2 rfl) ?_
  obtain ⟨r2, M3, he1, hf⟩ := ea_ci_s hf
  refine ea_runi2 hw (cl_X8_51 C hw ho0 (As := [.int x1, .int x2]) (rest := []) (mX8_latestRight (l := l) (E := E) (ids := ids) hX ho0 he1) (by decide) rfl hl.1 rfl (Nat.le_of_ble_eq_true rfl) dX8_triedShade_3 ⟨Nat.le_refl _, Nat.le_refl _⟩) (fun H locs hw => ?_)
  refine lv_istore (lv' := [(4, .int r2), (0, .ref (E.1 a0)), (1, .int x1), (2, .int x2), (3, .int x3)]) C.1 C.2.1 dX8_triedShade_6 hl (by decide) rfl (fun ls hl => ?_)
  refine lv_iload C.1 C.2.1 dX8_triedShade_8 (lv_at hl 0 rfl) ?_
  refine lv_iconst (v := (-1 : Int32)) C.1 C.2.1 dX8_triedShade_10 (by decide) ?_
  refine lv_icmp_ne (tgt := 30) C.1 C.2.1 dX8_triedShade_11 (by decide) (fun hc4 => ?_) (fun hc4 => ?_)
  · replace hf := ea_if_f hc4 hf
    refine lv_aload_n C.1 C.2.1 dX8_triedShade_30 rfl (lv_at hl 1 rfl) ?_
    refine gf_X8_18 C hw ho0 dX8_triedShade_31 ?_
    refine lv_iload C.1 C.2.1 dX8_triedShade_34 (lv_at hl 0 rfl) ?_
    refine lv_bipush (v := 6) C.1 C.2.1 dX8_triedShade_36 (by decide) ?_
    refine lv_imul C.1 C.2.1 dX8_triedShade_38 ?_
    refine lv_iconst (v := 3) C.1 C.2.1 dX8_triedShade_39 (by decide) ?_
    refine lv_iadd C.1 C.2.1 dX8_triedShade_40 ?_
    refine lv_iload_n C.1 C.2.1 dX8_triedShade_41 rfl (lv_at hl 4 rfl) ?_
    refine lv_iadd C.1 C.2.1 dX8_triedShade_42 ?_
    obtain ⟨hc5, hf⟩ := ea_ck_s hf
    refine ea_iald C hw (ok_8_2 ho0) hc5 dX8_triedShade_43 ?_
    exact ea_iret C hw hf dX8_triedShade_44
  · replace hf := ea_if_t hc4 hf
    refine lv_aload_n C.1 C.2.1 dX8_triedShade_14 rfl (lv_at hl 1 rfl) ?_
    refine gf_X8_15 C hw ho0 dX8_triedShade_15 ?_
    refine lv_iload_n C.1 C.2.1 dX8_triedShade_18 rfl (lv_at hl 2 rfl) ?_
    refine lv_bipush (v := 6) C.1 C.2.1 dX8_triedShade_19 (by decide) ?_
    refine lv_imul C.1 C.2.1 dX8_triedShade_21 ?_
    refine lv_iconst (v := 3) C.1 C.2.1 dX8_triedShade_22 (by decide) ?_
    refine lv_iadd C.1 C.2.1 dX8_triedShade_23 ?_
    refine lv_iload_n C.1 C.2.1 dX8_triedShade_24 rfl (lv_at hl 4 rfl) ?_
    refine lv_iadd C.1 C.2.1 dX8_triedShade_25 ?_
    obtain ⟨hc6, hf⟩ := ea_ck_s hf
    refine ea_iald C hw (ok_8_1 ho0) hc6 dX8_triedShade_26 ?_
    refine lv_goto (tgt := 44) C.1 C.2.1 dX8_triedShade_27 (by decide) ?_
    exact ea_iret C hw hf dX8_triedShade_44
set_option maxHeartbeats 4000000 in
set_option maxRecDepth 20000 in
theorem mX8_triedShade {l : Launch} {E : eE} {ids : List Nat} (hX : ea_X ids) {a0 : Nat} {x1 : Int32} {x2 : Int32} {x3 : Int32} (ho0 : ea_ok ids a0 8) {M : eM} {res : Int32 × eM} (hf : fX8_triedShade a0 x1 x2 x3 M = some res) : ea_Mi l yX8_triedShade cX8_triedShade 5 (some .int) 1 23 E ids [.ref (E.1 a0), .int x1, .int x2, .int x3] M res := by
  refine ea_goi (by decide) (Nat.le_of_ble_eq_true rfl) wc_X8_triedShade ?_
  intro p e s m below meth cd ls C hw hl
  exact wX8_triedShade_0 C hX ho0 _ _ _ _ _ _ _ hf hw hl
end SX8_triedShade

def fX3_gather_39 (k68 : Int32 → Int32 → Int32 → eM → Option (eM)) (a0 : Nat) : Nat → Int32 → Int32 → Int32 → Int32 → Int32 → eM → Option (eM)
  | 0, _, _, _, _, _, _ => none
  | n + 1, x1, x2, x3, x4, x5, M => if (3 : Int32) ≤ x5 then (k68 x1 x2 x3 M) else (ea_ci (fX8_lookShade 30 x4 x5 M) (fun r3 M4 => ea_cv (fX3_allow a0 x5 r3 M4) (fun M6 => fX3_gather_39 k68 a0 n x1 x2 x3 x4 (x5 + (1 : Int32)) M6)))
def fX3_gather_74 (k7 : Int32 → Int32 → Int32 → eM → Option (eM)) (a0 : Nat) (x1 : Int32) (x2 : Int32) (x3 : Int32) (M : eM) : Option (eM) := k7 x1 x2 (x3 + (1 : Int32)) M
def fX3_gather_68 (k7 : Int32 → Int32 → Int32 → eM → Option (eM)) (a0 : Nat) (x1 : Int32) (x2 : Int32) (x3 : Int32) (M : eM) : Option (eM) := ea_cv (fX3_addSight a0 x3 (0 : Int32) M) (fun M2 => fX3_gather_74 k7 a0 x1 x2 x3 M2)
def fX3_gather_7 (k80 : Int32 → Int32 → eM → Option (eM)) (a0 : Nat) : Nat → Int32 → Int32 → Int32 → eM → Option (eM)
  | 0, _, _, _, _ => none
  | n + 1, x1, x2, x3, M => if (2 : Int32) ≤ x3 then (k80 x1 x2 M) else (ea_ci (fX8_latestLook 30 x1 x3 x2 M) (fun r3 M4 => ea_ci (fX8_isSeen 30 r3 M4) (fun r6 M7 => if r6 = 0 then (fX3_gather_74 (fX3_gather_7 k80 a0 n) a0 x1 x2 x3 M7) else (fX3_gather_39 (fX3_gather_68 (fX3_gather_7 k80 a0 n) a0) a0 ea_N x1 x2 x3 r3 (0 : Int32) M7))))
def fX3_gather_109 (k138 : Int32 → Int32 → Int32 → eM → Option (eM)) (a0 : Nat) : Nat → Int32 → Int32 → Int32 → Int32 → eM → Option (eM)
  | 0, _, _, _, _, _ => none
  | n + 1, x1, x2, x3, x4, M => if (3 : Int32) ≤ x4 then (k138 x1 x2 x3 M) else (ea_ci (fX8_triedShade 30 x3 x2 x4 M) (fun r3 M4 => ea_cv (fX3_allow a0 x4 r3 M4) (fun M6 => fX3_gather_109 k138 a0 n x1 x2 x3 (x4 + (1 : Int32)) M6)))
def fX3_gather_151 (k82 : Int32 → Int32 → Int32 → eM → Option (eM)) (a0 : Nat) (x1 : Int32) (x2 : Int32) (x3 : Int32) (M : eM) : Option (eM) := k82 x1 x2 (x3 + (1 : Int32)) M
def fX3_gather_138 (k82 : Int32 → Int32 → Int32 → eM → Option (eM)) (a0 : Nat) (x1 : Int32) (x2 : Int32) (x3 : Int32) (M : eM) : Option (eM) := ea_ci (fX8_triedHours 30 x3 M) (fun r2 M3 => ea_cv (fX3_addSight a0 (0 : Int32) r2 M3) (fun M5 => fX3_gather_151 k82 a0 x1 x2 x3 M5))
def fX3_gather_82 (a0 : Nat) : Nat → Int32 → Int32 → Int32 → eM → Option (eM)
  | 0, _, _, _, _ => none
  | n + 1, x1, x2, x3, M => if (M.1 30 4) ≤ x3 then (some M) else (ea_ci (fX8_isTriedOf 30 x3 x1 x2 M) (fun r3 M4 => if r3 = 0 then (fX3_gather_151 (fX3_gather_82 a0 n) a0 x1 x2 x3 M4) else (fX3_gather_109 (fX3_gather_138 (fX3_gather_82 a0 n) a0) a0 ea_N x1 x2 x3 (0 : Int32) M4)))
def fX3_gather_80 (a0 : Nat) (x1 : Int32) (x2 : Int32) (M : eM) : Option (eM) := fX3_gather_82 a0 ea_N x1 x2 (0 : Int32) M
def fX3_gather_0 (a0 : Nat) (x1 : Int32) (x2 : Int32) (M : eM) : Option (eM) := fX3_gather_7 (fX3_gather_80 a0) a0 ea_N x1 x2 (0 : Int32) (ea_pI M a0 10 (0 : Int32))
def fX3_gather (a0 : Nat) (x1 : Int32) (x2 : Int32) (M : eM) : Option (eM) := fX3_gather_0 a0 x1 x2 M
section SX3_gather
variable {p : Program} {l : Launch} {e : Env} {s : State} {m : MethodId} {args : Array Value} {below : List Frame} {meth : Method} {cd : Code} {E : eE} {ids : List Nat} {res : eM} {a0 : Nat}
set_option maxHeartbeats 4000000 in
set_option maxRecDepth 20000 in
theorem wX3_gather_39 (C : ea_C p s m args meth cd cX3_gather 6 none RX3) (hX : ea_X ids) (ho0 : ea_ok ids a0 3) {k68 : Int32 → Int32 → Int32 → eM → Option (eM)} (hk68 : ∀ (x1 : Int32) (x2 : Int32) (x3 : Int32) (M : eM) (H : Heap) (locs : List Loc) (ls : Array Slot), k68 x1 x2 x3 M = some res → ea_w E ids M s H locs → lv_has ls 6 [(0, .ref (E.1 a0)), (1, .int x1), (2, .int x2), (3, .int x3)] → W p l e (ea_rm 2 47) s m args below meth cd H locs 0 0 (MQ below (ea_Qv E ids res) args s 0 0 (ea_Ad E ids)) (F0 m 68 ls [])) : ∀ (n : Nat) (x1 : Int32) (x2 : Int32) (x3 : Int32) (x4 : Int32) (x5 : Int32) (M : eM) (H : Heap) (locs : List Loc) (ls : Array Slot), fX3_gather_39 k68 a0 n x1 x2 x3 x4 x5 M = some res → ea_w E ids M s H locs → lv_has ls 6 [(0, .ref (E.1 a0)), (1, .int x1), (2, .int x2), (3, .int x3), (4, .int x4), (5, .int x5)] → W p l e (ea_rm 2 47) s m args below meth cd H locs 0 0 (MQ below (ea_Qv E ids res) args s 0 0 (ea_Ad E ids)) (F0 m 39 ls []) := by
  intro n
  induction n with
  | zero => intro x1 x2 x3 x4 x5 M H locs ls hf; cases hf
  | succ n ih =>
    intro x1 x2 x3 x4 x5 M H locs ls hf  hw hl
    replace hf := (fX3_gather_39.eq_2 ..).symm.trans hf
    refine lv_iload C.1 C.2.1 dX3_gather_39 (lv_at hl 5 rfl) ?_
    refine lv_iconst (v := 3) C.1 C.2.1 dX3_gather_41 (by decide) ?_
    refine lv_icmp_ge (tgt := 68) C.1 C.2.1 dX3_gather_42 (by decide) (fun hc1 => ?_) (fun hc1 => ?_)
    · replace hf := ea_if_t hc1 hf
      exact hk68 _ _ _ _ _ _ _ hf hw (lv_sub hl [0, 1, 2, 3] rfl)
    · replace hf := ea_if_f hc1 hf
      refine lv_aload_n C.1 C.2.1 dX3_gather_45 rfl (lv_at hl 0 rfl) ?_
      refine lv_iload C.1 C.2.1 dX3_gather_46 (lv_at hl 5 rfl) ?_
      refine lv_aload_n C.1 C.2.1 dX3_gather_48 rfl (lv_at hl 0 rfl) ?_
      refine gf_X3_41 C hw ho0 dX3_gather_49 ?_
      refine lv_iload C.1 C.2.1 dX3_gather_52 (lv_at hl 4 rfl) ?_
      refine lv_iload C.1 C.2.1 dX3_gather_54 (lv_at hl 5 rfl) ?_
      obtain ⟨r3, M4, he2, hf⟩ := ea_ci_s hf
      refine ea_runi2 hw (cl_X3_109 C hw (hX 30 8 rfl) (As := [.int x4, .int x5]) (rest := [.int x5, .ref (E.1 a0)]) (mX8_lookShade (l := l) (E := E) (ids := ids) hX (hX 30 8 rfl) he2) (by decide) rfl hl.1 rfl (Nat.le_of_ble_eq_true rfl) dX3_gather_56 ⟨Nat.le_refl _, Nat.le_refl _⟩) (fun H locs hw => ?_)
      obtain ⟨M6, he5, hf⟩ := ea_cv_s hf
      refine ea_runv hw (cl_X3_113 C hw ho0 (As := [.int x5, .int r3]) (rest := []) (mX3_allow (l := l) (E := E) (ids := ids) hX ho0 he5) (by decide) rfl hl.1 rfl (Nat.le_of_ble_eq_true rfl) dX3_gather_59 ⟨Nat.le_refl _, Nat.le_refl _⟩) (fun H locs hw => ?_)
      refine lv_iinc (v := x5 + (1 : Int32)) (lv' := [(5, .int (x5 + (1 : Int32))), (0, .ref (E.1 a0)), (1, .int x1), (2, .int x2), (3, .int x3), (4, .int x4)]) C.1 C.2.1 dX3_gather_62 hl (k := 5) rfl rfl (by decide) rfl (fun ls hl => ?_)
      refine lv_goto (tgt := 39) C.1 C.2.1 dX3_gather_65 (by decide) ?_
      exact ih _ _ _ _ _ _ _ _ _ hf hw (lv_sub hl [1, 2, 3, 4, 5, 0] rfl)
set_option maxHeartbeats 4000000 in
set_option maxRecDepth 20000 in
theorem wX3_gather_74 (C : ea_C p s m args meth cd cX3_gather 6 none RX3) (hX : ea_X ids) (ho0 : ea_ok ids a0 3) {k7 : Int32 → Int32 → Int32 → eM → Option (eM)} (hk7 : ∀ (x1 : Int32) (x2 : Int32) (x3 : Int32) (M : eM) (H : Heap) (locs : List Loc) (ls : Array Slot), k7 x1 x2 x3 M = some res → ea_w E ids M s H locs → lv_has ls 6 [(0, .ref (E.1 a0)), (1, .int x1), (2, .int x2), (3, .int x3)] → W p l e (ea_rm 2 47) s m args below meth cd H locs 0 0 (MQ below (ea_Qv E ids res) args s 0 0 (ea_Ad E ids)) (F0 m 7 ls [])) : ∀ (x1 : Int32) (x2 : Int32) (x3 : Int32) (M : eM) (H : Heap) (locs : List Loc) (ls : Array Slot), fX3_gather_74 k7 a0 x1 x2 x3 M = some res → ea_w E ids M s H locs → lv_has ls 6 [(0, .ref (E.1 a0)), (1, .int x1), (2, .int x2), (3, .int x3)] → W p l e (ea_rm 2 47) s m args below meth cd H locs 0 0 (MQ below (ea_Qv E ids res) args s 0 0 (ea_Ad E ids)) (F0 m 74 ls []) := by
  intro x1 x2 x3 M H locs ls hf  hw hl
  replace hf := (fX3_gather_74.eq_1 ..).symm.trans hf
  refine lv_iinc (v := x3 + (1 : Int32)) (lv' := [(3, .int (x3 + (1 : Int32))), (0, .ref (E.1 a0)), (1, .int x1), (2, .int x2)]) C.1 C.2.1 dX3_gather_74 hl (k := 3) rfl rfl (by decide) rfl (fun ls hl => ?_)
  refine lv_goto (tgt := 7) C.1 C.2.1 dX3_gather_77 (by decide) ?_
  exact hk7 _ _ _ _ _ _ _ hf hw (lv_sub hl [1, 2, 3, 0] rfl)
set_option maxHeartbeats 4000000 in
set_option maxRecDepth 20000 in
theorem wX3_gather_68 (C : ea_C p s m args meth cd cX3_gather 6 none RX3) (hX : ea_X ids) (ho0 : ea_ok ids a0 3) {k7 : Int32 → Int32 → Int32 → eM → Option (eM)} (hk7 : ∀ (x1 : Int32) (x2 : Int32) (x3 : Int32) (M : eM) (H : Heap) (locs : List Loc) (ls : Array Slot), k7 x1 x2 x3 M = some res → ea_w E ids M s H locs → lv_has ls 6 [(0, .ref (E.1 a0)), (1, .int x1), (2, .int x2), (3, .int x3)] → W p l e (ea_rm 2 47) s m args below meth cd H locs 0 0 (MQ below (ea_Qv E ids res) args s 0 0 (ea_Ad E ids)) (F0 m 7 ls [])) : ∀ (x1 : Int32) (x2 : Int32) (x3 : Int32) (M : eM) (H : Heap) (locs : List Loc) (ls : Array Slot), fX3_gather_68 k7 a0 x1 x2 x3 M = some res → ea_w E ids M s H locs → lv_has ls 6 [(0, .ref (E.1 a0)), (1, .int x1), (2, .int x2), (3, .int x3)] → W p l e (ea_rm 2 47) s m args below meth cd H locs 0 0 (MQ below (ea_Qv E ids res) args s 0 0 (ea_Ad E ids)) (F0 m 68 ls []) := by
  intro x1 x2 x3 M H locs ls hf  hw hl
  replace hf := (fX3_gather_68.eq_1 ..).symm.trans hf
  refine lv_aload_n C.1 C.2.1 dX3_gather_68 rfl (lv_at hl 0 rfl) ?_
  refine lv_iload_n C.1 C.2.1 dX3_gather_69 rfl (lv_at hl 3 rfl) ?_
  refine lv_iconst (v := 0) C.1 C.2.1 dX3_gather_70 (by decide) ?_
  obtain ⟨M2, he1, hf⟩ := ea_cv_s hf
  refine ea_runv hw (cl_X3_116 C hw ho0 (As := [.int x3, .int (0 : Int32)]) (rest := []) (mX3_addSight (l := l) (E := E) (ids := ids) hX ho0 he1) (by decide) rfl hl.1 rfl (Nat.le_of_ble_eq_true rfl) dX3_gather_71 ⟨Nat.le_refl _, Nat.le_refl _⟩) (fun H locs hw => ?_)
  exact wX3_gather_74 C hX ho0 hk7 _ _ _ _ _ _ _ hf hw (lv_sub hl [0, 1, 2, 3] rfl)
set_option maxHeartbeats 4000000 in
set_option maxRecDepth 20000 in
theorem wX3_gather_7 (C : ea_C p s m args meth cd cX3_gather 6 none RX3) (hX : ea_X ids) (ho0 : ea_ok ids a0 3) {k80 : Int32 → Int32 → eM → Option (eM)} (hk80 : ∀ (x1 : Int32) (x2 : Int32) (M : eM) (H : Heap) (locs : List Loc) (ls : Array Slot), k80 x1 x2 M = some res → ea_w E ids M s H locs → lv_has ls 6 [(0, .ref (E.1 a0)), (1, .int x1), (2, .int x2)] → W p l e (ea_rm 2 47) s m args below meth cd H locs 0 0 (MQ below (ea_Qv E ids res) args s 0 0 (ea_Ad E ids)) (F0 m 80 ls [])) : ∀ (n : Nat) (x1 : Int32) (x2 : Int32) (x3 : Int32) (M : eM) (H : Heap) (locs : List Loc) (ls : Array Slot), fX3_gather_7 k80 a0 n x1 x2 x3 M = some res → ea_w E ids M s H locs → lv_has ls 6 [(0, .ref (E.1 a0)), (1, .int x1), (2, .int x2), (3, .int x3)] → W p l e (ea_rm 2 47) s m args below meth cd H locs 0 0 (MQ below (ea_Qv E ids res) args s 0 0 (ea_Ad E ids)) (F0 m 7 ls []) := by
  intro n
  induction n with
  | zero => intro x1 x2 x3 M H locs ls hf; cases hf
  | succ n ih =>
    intro x1 x2 x3 M H locs ls hf  hw hl
    replace hf := (fX3_gather_7.eq_2 ..).symm.trans hf
    refine lv_iload_n C.1 C.2.1 dX3_gather_7 rfl (lv_at hl 3 rfl) ?_
    refine lv_iconst (v := 2) C.1 C.2.1 dX3_gather_8 (by decide) ?_
    refine lv_icmp_ge (tgt := 80) C.1 C.2.1 dX3_gather_9 (by decide) (fun hc1 => ?_) (fun hc1 => ?_)
    · replace hf := ea_if_t hc1 hf
      exact hk80 _ _ _ _ _ _ hf hw (lv_sub hl [0, 1, 2] rfl)
    · replace hf := ea_if_f hc1 hf
      refine lv_aload_n C.1 C.2.1 dX3_gather_12 rfl (lv_at hl 0 rfl) ?_
      refine gf_X3_41 C hw ho0 dX3_gather_13 ?_
      refine lv_iload_n C.1 C.2.1 dX3_gather_16 rfl (lv_at hl 1 rfl) ?_
      refine lv_iload_n C.1 C.2.1 dX3_gather_17 rfl (lv_at hl 3 rfl) ?_
      refine lv_iload_n C.1 C.2.1 dX3_gather_18 rfl (lv_at hl 2 rfl) ?_
      obtain ⟨r3, M4, he2, hf⟩ := ea_ci_s hf
      refine ea_runi2 hw (cl_X3_101 C hw (hX 30 8 rfl) (As := [.int x1, .int x3, .int x2]) (rest := []) (mX8_latestLook (l := l) (E := E) (ids := ids) hX (hX 30 8 rfl) he2) (by decide) rfl hl.1 rfl (Nat.le_of_ble_eq_true rfl) dX3_gather_19 ⟨Nat.le_refl _, Nat.le_refl _⟩) (fun H locs hw => ?_)
      refine lv_istore (lv' := [(4, .int r3), (0, .ref (E.1 a0)), (1, .int x1), (2, .int x2), (3, .int x3)]) C.1 C.2.1 dX3_gather_22 hl (by decide) rfl (fun ls hl => ?_)
      refine lv_aload_n C.1 C.2.1 dX3_gather_24 rfl (lv_at hl 1 rfl) ?_
      refine gf_X3_41 C hw ho0 dX3_gather_25 ?_
      refine lv_iload C.1 C.2.1 dX3_gather_28 (lv_at hl 0 rfl) ?_
      obtain ⟨r6, M7, he5, hf⟩ := ea_ci_s hf
      refine ea_runi2 hw (cl_X3_105 C hw (hX 30 8 rfl) (As := [.int r3]) (rest := []) (mX8_isSeen (l := l) (E := E) (ids := ids) hX (hX 30 8 rfl) he5) (by decide) rfl hl.1 rfl (Nat.le_of_ble_eq_true rfl) dX3_gather_30 ⟨Nat.le_refl _, Nat.le_refl _⟩) (fun H locs hw => ?_)
      refine lv_if_eq (tgt := 74) C.1 C.2.1 dX3_gather_33 (by decide) (fun hc8 => ?_) (fun hc8 => ?_)
      · replace hf := ea_if_t hc8 hf
        exact wX3_gather_74 C hX ho0 ih _ _ _ _ _ _ _ hf hw (lv_sub hl [1, 2, 3, 4] rfl)
      · replace hf := ea_if_f hc8 hf
        refine lv_iconst (v := 0) C.1 C.2.1 dX3_gather_36 (by decide) ?_
        refine lv_istore (lv' := [(5, .int (0 : Int32)), (4, .int r3), (0, .ref (E.1 a0)), (1, .int x1), (2, .int x2), (3, .int x3)]) C.1 C.2.1 dX3_gather_37 hl (by decide) rfl (fun ls hl => ?_)
        exact wX3_gather_39 C hX ho0 (wX3_gather_68 C hX ho0 ih) ea_N _ _ _ _ _ _ _ _ _ hf hw (lv_sub hl [2, 3, 4, 5, 1, 0] rfl)
set_option maxHeartbeats 4000000 in
set_option maxRecDepth 20000 in
theorem wX3_gather_109 (C : ea_C p s m args meth cd cX3_gather 6 none RX3) (hX : ea_X ids) (ho0 : ea_ok ids a0 3) {k138 : Int32 → Int32 → Int32 → eM → Option (eM)} (hk138 : ∀ (x1 : Int32) (x2 : Int32) (x3 : Int32) (M : eM) (H : Heap) (locs : List Loc) (ls : Array Slot), k138 x1 x2 x3 M = some res → ea_w E ids M s H locs → lv_has ls 6 [(0, .ref (E.1 a0)), (1, .int x1), (2, .int x2), (3, .int x3)] → W p l e (ea_rm 2 47) s m args below meth cd H locs 0 0 (MQ below (ea_Qv E ids res) args s 0 0 (ea_Ad E ids)) (F0 m 138 ls [])) : ∀ (n : Nat) (x1 : Int32) (x2 : Int32) (x3 : Int32) (x4 : Int32) (M : eM) (H : Heap) (locs : List Loc) (ls : Array Slot), fX3_gather_109 k138 a0 n x1 x2 x3 x4 M = some res → ea_w E ids M s H locs → lv_has ls 6 [(0, .ref (E.1 a0)), (1, .int x1), (2, .int x2), (3, .int x3), (4, .int x4)] → W p l e (ea_rm 2 47) s m args below meth cd H locs 0 0 (MQ below (ea_Qv E ids res) args s 0 0 (ea_Ad E ids)) (F0 m 109 ls []) := by
  intro n
  induction n with
  | zero => intro x1 x2 x3 x4 M H locs ls hf; cases hf
  | succ n ih =>
    intro x1 x2 x3 x4 M H locs ls hf  hw hl
    replace hf := (fX3_gather_109.eq_2 ..).symm.trans hf
    refine lv_iload C.1 C.2.1 dX3_gather_109 (lv_at hl 4 rfl) ?_
    refine lv_iconst (v := 3) C.1 C.2.1 dX3_gather_111 (by decide) ?_
    refine lv_icmp_ge (tgt := 138) C.1 C.2.1 dX3_gather_112 (by decide) (fun hc1 => ?_) (fun hc1 => ?_)
    · replace hf := ea_if_t hc1 hf
      exact hk138 _ _ _ _ _ _ _ hf hw (lv_sub hl [0, 1, 2, 3] rfl)
    · replace hf := ea_if_f hc1 hf
      refine lv_aload_n C.1 C.2.1 dX3_gather_115 rfl (lv_at hl 0 rfl) ?_
      refine lv_iload C.1 C.2.1 dX3_gather_116 (lv_at hl 4 rfl) ?_
      refine lv_aload_n C.1 C.2.1 dX3_gather_118 rfl (lv_at hl 0 rfl) ?_
      refine gf_X3_41 C hw ho0 dX3_gather_119 ?_
      refine lv_iload_n C.1 C.2.1 dX3_gather_122 rfl (lv_at hl 3 rfl) ?_
      refine lv_iload_n C.1 C.2.1 dX3_gather_123 rfl (lv_at hl 2 rfl) ?_
      refine lv_iload C.1 C.2.1 dX3_gather_124 (lv_at hl 4 rfl) ?_
      obtain ⟨r3, M4, he2, hf⟩ := ea_ci_s hf
      refine ea_runi2 hw (cl_X3_126 C hw (hX 30 8 rfl) (As := [.int x3, .int x2, .int x4]) (rest := [.int x4, .ref (E.1 a0)]) (mX8_triedShade (l := l) (E := E) (ids := ids) hX (hX 30 8 rfl) he2) (by decide) rfl hl.1 rfl (Nat.le_of_ble_eq_true rfl) dX3_gather_126 ⟨Nat.le_refl _, Nat.le_refl _⟩) (fun H locs hw => ?_)
      obtain ⟨M6, he5, hf⟩ := ea_cv_s hf
      refine ea_runv hw (cl_X3_113 C hw ho0 (As := [.int x4, .int r3]) (rest := []) (mX3_allow (l := l) (E := E) (ids := ids) hX ho0 he5) (by decide) rfl hl.1 rfl (Nat.le_of_ble_eq_true rfl) dX3_gather_129 ⟨Nat.le_refl _, Nat.le_refl _⟩) (fun H locs hw => ?_)
      refine lv_iinc (v := x4 + (1 : Int32)) (lv' := [(4, .int (x4 + (1 : Int32))), (0, .ref (E.1 a0)), (1, .int x1), (2, .int x2), (3, .int x3)]) C.1 C.2.1 dX3_gather_132 hl (k := 4) rfl rfl (by decide) rfl (fun ls hl => ?_)
      refine lv_goto (tgt := 109) C.1 C.2.1 dX3_gather_135 (by decide) ?_
      exact ih _ _ _ _ _ _ _ _ hf hw (lv_sub hl [1, 2, 3, 4, 0] rfl)
set_option maxHeartbeats 4000000 in
set_option maxRecDepth 20000 in
theorem wX3_gather_151 (C : ea_C p s m args meth cd cX3_gather 6 none RX3) (hX : ea_X ids) (ho0 : ea_ok ids a0 3) {k82 : Int32 → Int32 → Int32 → eM → Option (eM)} (hk82 : ∀ (x1 : Int32) (x2 : Int32) (x3 : Int32) (M : eM) (H : Heap) (locs : List Loc) (ls : Array Slot), k82 x1 x2 x3 M = some res → ea_w E ids M s H locs → lv_has ls 6 [(0, .ref (E.1 a0)), (1, .int x1), (2, .int x2), (3, .int x3)] → W p l e (ea_rm 2 47) s m args below meth cd H locs 0 0 (MQ below (ea_Qv E ids res) args s 0 0 (ea_Ad E ids)) (F0 m 82 ls [])) : ∀ (x1 : Int32) (x2 : Int32) (x3 : Int32) (M : eM) (H : Heap) (locs : List Loc) (ls : Array Slot), fX3_gather_151 k82 a0 x1 x2 x3 M = some res → ea_w E ids M s H locs → lv_has ls 6 [(0, .ref (E.1 a0)), (1, .int x1), (2, .int x2), (3, .int x3)] → W p l e (ea_rm 2 47) s m args below meth cd H locs 0 0 (MQ below (ea_Qv E ids res) args s 0 0 (ea_Ad E ids)) (F0 m 151 ls []) := by
  intro x1 x2 x3 M H locs ls hf  hw hl
  replace hf := (fX3_gather_151.eq_1 ..).symm.trans hf
  refine lv_iinc (v := x3 + (1 : Int32)) (lv' := [(3, .int (x3 + (1 : Int32))), (0, .ref (E.1 a0)), (1, .int x1), (2, .int x2)]) C.1 C.2.1 dX3_gather_151 hl (k := 3) rfl rfl (by decide) rfl (fun ls hl => ?_)
  refine lv_goto (tgt := 82) C.1 C.2.1 dX3_gather_154 (by decide) ?_
  exact hk82 _ _ _ _ _ _ _ hf hw (lv_sub hl [1, 2, 3, 0] rfl)
set_option maxHeartbeats 4000000 in
set_option maxRecDepth 20000 in
theorem wX3_gather_138 (C : ea_C p s m args meth cd cX3_gather 6 none RX3) (hX : ea_X ids) (ho0 : ea_ok ids a0 3) {k82 : Int32 → Int32 → Int32 → eM → Option (eM)} (hk82 : ∀ (x1 : Int32) (x2 : Int32) (x3 : Int32) (M : eM) (H : Heap) (locs : List Loc) (ls : Array Slot), k82 x1 x2 x3 M = some res → ea_w E ids M s H locs → lv_has ls 6 [(0, .ref (E.1 a0)), (1, .int x1), (2, .int x2), (3, .int x3)] → W p l e (ea_rm 2 47) s m args below meth cd H locs 0 0 (MQ below (ea_Qv E ids res) args s 0 0 (ea_Ad E ids)) (F0 m 82 ls [])) : ∀ (x1 : Int32) (x2 : Int32) (x3 : Int32) (M : eM) (H : Heap) (locs : List Loc) (ls : Array Slot), fX3_gather_138 k82 a0 x1 x2 x3 M = some res → ea_w E ids M s H locs → lv_has ls 6 [(0, .ref (E.1 a0)), (1, .int x1), (2, .int x2), (3, .int x3)] → W p l e (ea_rm 2 47) s m args below meth cd H locs 0 0 (MQ below (ea_Qv E ids res) args s 0 0 (ea_Ad E ids)) (F0 m 138 ls []) := by
  intro x1 x2 x3 M H locs ls hf  hw hl
  replace hf := (fX3_gather_138.eq_1 ..).symm.trans hf
  refine lv_aload_n C.1 C.2.1 dX3_gather_138 rfl (lv_at hl 0 rfl) ?_
  refine lv_iconst (v := 0) C.1 C.2.1 dX3_gather_139 (by decide) ?_
  refine lv_aload_n C.1 C.2.1 dX3_gather_140 rfl (lv_at hl 0 rfl) ?_
  refine gf_X3_41 C hw ho0 dX3_gather_141 ?_
  refine lv_iload_n C.1 C.2.1 dX3_gather_144 rfl (lv_at hl 3 rfl) ?_
  obtain ⟨r2, M3, he1, hf⟩ := ea_ci_s hf
  refine ea_runi2 hw (cl_X3_129 C hw (hX 30 8 rfl) (As := [.int x3]) (rest := [.int (0 : Int32), .ref (E.1 a0)]) (mX8_triedHours (l := l) (E := E) (ids := ids) hX (hX 30 8 rfl) he1) (by decide) rfl hl.1 rfl (Nat.le_of_ble_eq_true rfl) dX3_gather_145 ⟨Nat.le_refl _, Nat.le_refl _⟩) (fun H locs hw => ?_)
  obtain ⟨M5, he4, hf⟩ := ea_cv_s hf
  refine ea_runv hw (cl_X3_116 C hw ho0 (As := [.int (0 : Int32), .int r2]) (rest := []) (mX3_addSight (l := l) (E := E) (ids := ids) hX ho0 he4) (by decide) rfl hl.1 rfl (Nat.le_of_ble_eq_true rfl) dX3_gather_148 ⟨Nat.le_refl _, Nat.le_refl _⟩) (fun H locs hw => ?_)
  exact wX3_gather_151 C hX ho0 hk82 _ _ _ _ _ _ _ hf hw (lv_sub hl [0, 1, 2, 3] rfl)
set_option maxHeartbeats 4000000 in
set_option maxRecDepth 20000 in
theorem wX3_gather_82 (C : ea_C p s m args meth cd cX3_gather 6 none RX3) (hX : ea_X ids) (ho0 : ea_ok ids a0 3) : ∀ (n : Nat) (x1 : Int32) (x2 : Int32) (x3 : Int32) (M : eM) (H : Heap) (locs : List Loc) (ls : Array Slot), fX3_gather_82 a0 n x1 x2 x3 M = some res → ea_w E ids M s H locs → lv_has ls 6 [(0, .ref (E.1 a0)), (1, .int x1), (2, .int x2), (3, .int x3)] → W p l e (ea_rm 2 47) s m args below meth cd H locs 0 0 (MQ below (ea_Qv E ids res) args s 0 0 (ea_Ad E ids)) (F0 m 82 ls []) := by
  intro n
  induction n with
  | zero => intro x1 x2 x3 M H locs ls hf; cases hf
  | succ n ih =>
    intro x1 x2 x3 M H locs ls hf  hw hl
    replace hf := (fX3_gather_82.eq_2 ..).symm.trans hf
    refine lv_iload_n C.1 C.2.1 dX3_gather_82 rfl (lv_at hl 3 rfl) ?_
    refine lv_aload_n C.1 C.2.1 dX3_gather_83 rfl (lv_at hl 0 rfl) ?_
    refine gf_X3_41 C hw ho0 dX3_gather_84 ?_
    refine gf_X3_119 C hw (hX 30 8 rfl) dX3_gather_87 ?_
    refine lv_icmp_ge (tgt := 157) C.1 C.2.1 dX3_gather_90 (by decide) (fun hc1 => ?_) (fun hc1 => ?_)
    · replace hf := ea_if_t hc1 hf
      exact ea_vret C hw hf dX3_gather_157
    · replace hf := ea_if_f hc1 hf
      refine lv_aload_n C.1 C.2.1 dX3_gather_93 rfl (lv_at hl 0 rfl) ?_
      refine gf_X3_41 C hw ho0 dX3_gather_94 ?_
      refine lv_iload_n C.1 C.2.1 dX3_gather_97 rfl (lv_at hl 3 rfl) ?_
      refine lv_iload_n C.1 C.2.1 dX3_gather_98 rfl (lv_at hl 1 rfl) ?_
      refine lv_iload_n C.1 C.2.1 dX3_gather_99 rfl (lv_at hl 2 rfl) ?_
      obtain ⟨r3, M4, he2, hf⟩ := ea_ci_s hf
      refine ea_runi2 hw (cl_X3_122 C hw (hX 30 8 rfl) (As := [.int x3, .int x1, .int x2]) (rest := []) (mX8_isTriedOf (l := l) (E := E) (ids := ids) hX (hX 30 8 rfl) he2) (by decide) rfl hl.1 rfl (Nat.le_of_ble_eq_true rfl) dX3_gather_100 ⟨Nat.le_refl _, Nat.le_refl _⟩) (fun H locs hw => ?_)
      refine lv_if_eq (tgt := 151) C.1 C.2.1 dX3_gather_103 (by decide) (fun hc5 => ?_) (fun hc5 => ?_)
      · replace hf := ea_if_t hc5 hf
        exact wX3_gather_151 C hX ho0 ih _ _ _ _ _ _ _ hf hw (lv_sub hl [0, 1, 2, 3] rfl)
      · replace hf := ea_if_f hc5 hf
        refine lv_iconst (v := 0) C.1 C.2.1 dX3_gather_106 (by decide) ?_
        refine lv_istore (lv' := [(4, .int (0 : Int32)), (0, .ref (E.1 a0)), (1, .int x1), (2, .int x2), (3, .int x3)]) C.1 C.2.1 dX3_gather_107 hl (by decide) rfl (fun ls hl => ?_)
        exact wX3_gather_109 C hX ho0 (wX3_gather_138 C hX ho0 ih) ea_N _ _ _ _ _ _ _ _ hf hw (lv_sub hl [1, 2, 3, 4, 0] rfl)
set_option maxHeartbeats 4000000 in
set_option maxRecDepth 20000 in
theorem wX3_gather_80 (C : ea_C p s m args meth cd cX3_gather 6 none RX3) (hX : ea_X ids) (ho0 : ea_ok ids a0 3) : ∀ (x1 : Int32) (x2 : Int32) (M : eM) (H : Heap) (locs : List Loc) (ls : Array Slot), fX3_gather_80 a0 x1 x2 M = some res → ea_w E ids M s H locs → lv_has ls 6 [(0, .ref (E.1 a0)), (1, .int x1), (2, .int x2)] → W p l e (ea_rm 2 47) s m args below meth cd H locs 0 0 (MQ below (ea_Qv E ids res) args s 0 0 (ea_Ad E ids)) (F0 m 80 ls []) := by
  intro x1 x2 M H locs ls hf  hw hl
  replace hf := (fX3_gather_80.eq_1 ..).symm.trans hf
  refine lv_iconst (v := 0) C.1 C.2.1 dX3_gather_80 (by decide) ?_
  refine lv_istore_n (lv' := [(3, .int (0 : Int32)), (0, .ref (E.1 a0)), (1, .int x1), (2, .int x2)]) C.1 C.2.1 dX3_gather_81 rfl hl (by decide) rfl (fun ls hl => ?_)
  exact wX3_gather_82 C hX ho0 ea_N _ _ _ _ _ _ _ hf hw (lv_sub hl [1, 2, 3, 0] rfl)
set_option maxHeartbeats 4000000 in
set_option maxRecDepth 20000 in
theorem wX3_gather_0 (C : ea_C p s m args meth cd cX3_gather 6 none RX3) (hX : ea_X ids) (ho0 : ea_ok ids a0 3) : ∀ (x1 : Int32) (x2 : Int32) (M : eM) (H : Heap) (locs : List Loc) (ls : Array Slot), fX3_gather_0 a0 x1 x2 M = some res → ea_w E ids M s H locs → lv_has ls 6 [(0, .ref (E.1 a0)), (1, .int x1), (2, .int x2)] → W p l e (ea_rm 2 47) s m args below meth cd H locs 0 0 (MQ below (ea_Qv E ids res) args s 0 0 (ea_Ad E ids)) (F0 m 0 ls []) := by
  intro x1 x2 M H locs ls hf  hw hl
  replace hf := (fX3_gather_0.eq_1 ..).symm.trans hf
  refine lv_aload_n C.1 C.2.1 dX3_gather_0 rfl (lv_at hl 0 rfl) ?_
  refine lv_iconst (v := 0) C.1 C.2.1 dX3_gather_1 (by decide) ?_
  refine pu_X3_84 C hw ho0 dX3_gather_2 (fun H locs hw => ?_)
  refine lv_iconst (v := 0) C.1 C.2.1 dX3_gather_5 (by decide) ?_
  refine lv_istore_n (lv' := [(3, .int (0 : Int32)), (0, .ref (E.1 a0)), (1, .int x1), (2, .int x2)]) C.1 C.2.1 dX3_gather_6 rfl hl (by decide) rfl (fun ls hl => ?_)
  exact wX3_gather_7 C hX ho0 (wX3_gather_80 C hX ho0) ea_N _ _ _ _ _ _ _ hf hw (lv_sub hl [1, 2, 3, 0] rfl)
set_option maxHeartbeats 4000000 in
set_option maxRecDepth 20000 in
theorem mX3_gather {l : Launch} {E : eE} {ids : List Nat} (hX : ea_X ids) {a0 : Nat} {x1 : Int32} {x2 : Int32} (ho0 : ea_ok ids a0 3) {M : eM} {res : eM} (hf : fX3_gather a0 x1 x2 M = some res) : ea_Mv l yX3_gather cX3_gather 6 2 47 E ids [.ref (E.1 a0), .int x1, .int x2] M res := by
  refine ea_gov (by decide) (Nat.le_of_ble_eq_true rfl) wc_X3_gather ?_
  intro p e s m below meth cd ls C hw hl
  exact wX3_gather_0 C hX ho0 _ _ _ _ _ _ hf hw hl
end SX3_gather

def fX5_keepsWithin_29 (a0 : Nat) (a2 : Nat) (a3 : Nat) : Nat → Int32 → Int32 → Int32 → Int32 → eM → Option (Int32 × eM)
  | 0, _, _, _, _, _ => none
  | n + 1, x4, x5, x6, x7, M => if (3 : Int32) ≤ x7 then (some ((1 : Int32), M)) else (ea_ck (ea_ix (x5 + x7) (ea_len (a0 + 1))) (ea_ck (ea_ix (x6 + x7) (ea_len (a0 + 1))) (ea_lt ((M.1 (a0 + 1) (x5 + x7).toNatClampNeg) + (M.1 (a0 + 1) (x6 + x7).toNatClampNeg)) (fun y4 => ea_ck (ea_ix (x4 + x7) (ea_len a2)) (if y4 < (M.1 a2 (x4 + x7).toNatClampNeg) then (some ((0 : Int32), M)) else (ea_ck (ea_ix (x4 + x7) (ea_len a3)) (if y4 ≤ (M.1 a3 (x4 + x7).toNatClampNeg) then (fX5_keepsWithin_29 a0 a2 a3 n x4 x5 x6 (x7 + (1 : Int32)) M) else (some ((0 : Int32), M)))))))))
def fX5_keepsWithin_0 (a0 : Nat) (a2 : Nat) (a3 : Nat) (x1 : Int32) (x4 : Int32) (M : eM) : Option (Int32 × eM) := ea_ck (ea_ix x1 (ea_len 5)) (ea_lt ((M.1 5 x1.toNatClampNeg) * (3 : Int32)) (fun y2 => ea_ck (ea_ix x1 (ea_len 6)) (ea_lt ((M.1 6 x1.toNatClampNeg) * (3 : Int32)) (fun y5 => fX5_keepsWithin_29 a0 a2 a3 ea_N x4 y2 y5 (0 : Int32) M))))
def fX5_keepsWithin (a0 : Nat) (a2 : Nat) (a3 : Nat) (x1 : Int32) (x4 : Int32) (M : eM) : Option (Int32 × eM) := fX5_keepsWithin_0 a0 a2 a3 x1 x4 M
section SX5_keepsWithin
variable {p : Program} {l : Launch} {e : Env} {s : State} {m : MethodId} {args : Array Value} {below : List Frame} {meth : Method} {cd : Code} {E : eE} {ids : List Nat} {res : Int32 × eM} {a0 a2 a3 : Nat}
set_option maxHeartbeats 4000000 in
set_option maxRecDepth 20000 in
theorem wX5_keepsWithin_29 (C : ea_C p s m args meth cd cX5_keepsWithin 9 (some .boolean) RX5) (hX : ea_X ids) (ho0 : ea_ok ids a0 5) (ho2 : ea_ok ids a2 20) (ho3 : ea_ok ids a3 20) : ∀ (n : Nat) (x4 : Int32) (x5 : Int32) (x6 : Int32) (x7 : Int32) (M : eM) (H : Heap) (locs : List Loc) (ls : Array Slot), fX5_keepsWithin_29 a0 a2 a3 n x4 x5 x6 x7 M = some res → ea_w E ids M s H locs → lv_has ls 9 [(0, .ref (E.1 a0)), (2, .ref (E.1 a2)), (3, .ref (E.1 a3)), (4, .int x4), (5, .int x5), (6, .int x6), (7, .int x7)] → W p l e (ea_rm 0 0) s m args below meth cd H locs 0 0 (MQ below (ea_Qi E ids res) args s 0 0 (ea_Ad E ids)) (F0 m 29 ls []) := by
  intro n
  induction n with
  | zero => intro x4 x5 x6 x7 M H locs ls hf; cases hf
  | succ n ih =>
    intro x4 x5 x6 x7 M H locs ls hf  hw hl
    replace hf := (fX5_keepsWithin_29.eq_2 ..).symm.trans hf
    refine lv_iload C.1 C.2.1 dX5_keepsWithin_29 (lv_at hl 6 rfl) ?_
    refine lv_iconst (v := 3) C.1 C.2.1 dX5_keepsWithin_31 (by decide) ?_
    refine lv_icmp_ge (tgt := 90) C.1 C.2.1 dX5_keepsWithin_32 (by decide) (fun hc1 => ?_) (fun hc1 => ?_)
    · replace hf := ea_if_t hc1 hf
      refine lv_iconst (v := 1) C.1 C.2.1 dX5_keepsWithin_90 (by decide) ?_
      exact ea_zret C hw (by decide) hf dX5_keepsWithin_91
    · replace hf := ea_if_f hc1 hf
      refine lv_aload_n C.1 C.2.1 dX5_keepsWithin_35 rfl (lv_at hl 0 rfl) ?_
      refine gf_X5_9 C hw ho0 dX5_keepsWithin_36 ?_
      refine lv_iload C.1 C.2.1 dX5_keepsWithin_39 (lv_at hl 4 rfl) ?_
      refine lv_iload C.1 C.2.1 dX5_keepsWithin_41 (lv_at hl 6 rfl) ?_
      refine lv_iadd C.1 C.2.1 dX5_keepsWithin_43 ?_
      obtain ⟨hc2, hf⟩ := ea_ck_s hf
      refine ea_iald C hw (ok_5_1 ho0) hc2 dX5_keepsWithin_44 ?_
      refine lv_aload_n C.1 C.2.1 dX5_keepsWithin_45 rfl (lv_at hl 0 rfl) ?_
      refine gf_X5_9 C hw ho0 dX5_keepsWithin_46 ?_
      refine lv_iload C.1 C.2.1 dX5_keepsWithin_49 (lv_at hl 5 rfl) ?_
      refine lv_iload C.1 C.2.1 dX5_keepsWithin_51 (lv_at hl 6 rfl) ?_
      refine lv_iadd C.1 C.2.1 dX5_keepsWithin_53 ?_
      obtain ⟨hc3, hf⟩ := ea_ck_s hf
      refine ea_iald C hw (ok_5_1 ho0) hc3 dX5_keepsWithin_54 ?_
      refine lv_iadd C.1 C.2.1 dX5_keepsWithin_55 ?_
      obtain ⟨y4, ey5, hf⟩ := ea_lt_s hf
      refine ea_topi ey5 ?_
      refine lv_istore (lv' := [(8, .int y4), (0, .ref (E.1 a0)), (2, .ref (E.1 a2)), (3, .ref (E.1 a3)), (4, .int x4), (5, .int x5), (6, .int x6), (7, .int x7)]) C.1 C.2.1 dX5_keepsWithin_56 hl (by decide) rfl (fun ls hl => ?_)
      refine lv_iload C.1 C.2.1 dX5_keepsWithin_58 (lv_at hl 0 rfl) ?_
      refine lv_aload_n C.1 C.2.1 dX5_keepsWithin_60 rfl (lv_at hl 2 rfl) ?_
      refine lv_iload C.1 C.2.1 dX5_keepsWithin_61 (lv_at hl 4 rfl) ?_
      refine lv_iload C.1 C.2.1 dX5_keepsWithin_63 (lv_at hl 7 rfl) ?_
      refine lv_iadd C.1 C.2.1 dX5_keepsWithin_65 ?_
      obtain ⟨hc6, hf⟩ := ea_ck_s hf
      refine ea_iald C hw ho2 hc6 dX5_keepsWithin_66 ?_
      refine lv_icmp_lt (tgt := 82) C.1 C.2.1 dX5_keepsWithin_67 (by decide) (fun hc7 => ?_) (fun hc7 => ?_)
      · replace hf := ea_if_t hc7 hf
        refine lv_iconst (v := 0) C.1 C.2.1 dX5_keepsWithin_82 (by decide) ?_
        exact ea_zret C hw (by decide) hf dX5_keepsWithin_83
      · replace hf := ea_if_f hc7 hf
        refine lv_iload C.1 C.2.1 dX5_keepsWithin_70 (lv_at hl 0 rfl) ?_
        refine lv_aload_n C.1 C.2.1 dX5_keepsWithin_72 rfl (lv_at hl 3 rfl) ?_
        refine lv_iload C.1 C.2.1 dX5_keepsWithin_73 (lv_at hl 4 rfl) ?_
        refine lv_iload C.1 C.2.1 dX5_keepsWithin_75 (lv_at hl 7 rfl) ?_
        refine lv_iadd C.1 C.2.1 dX5_keepsWithin_77 ?_
        obtain ⟨hc8, hf⟩ := ea_ck_s hf
        refine ea_iald C hw ho3 hc8 dX5_keepsWithin_78 ?_
        refine lv_icmp_le (tgt := 84) C.1 C.2.1 dX5_keepsWithin_79 (by decide) (fun hc9 => ?_) (fun hc9 => ?_)
        · replace hf := ea_if_t hc9 hf
          refine lv_iinc (v := x7 + (1 : Int32)) (lv' := [(7, .int (x7 + (1 : Int32))), (8, .int y4), (0, .ref (E.1 a0)), (2, .ref (E.1 a2)), (3, .ref (E.1 a3)), (4, .int x4), (5, .int x5), (6, .int x6)]) C.1 C.2.1 dX5_keepsWithin_84 hl (k := 7) rfl rfl (by decide) rfl (fun ls hl => ?_)
          refine lv_goto (tgt := 29) C.1 C.2.1 dX5_keepsWithin_87 (by decide) ?_
          exact ih _ _ _ _ _ _ _ _ hf hw (lv_sub hl [2, 3, 4, 5, 6, 7, 0] rfl)
        · replace hf := ea_if_f hc9 hf
          refine lv_iconst (v := 0) C.1 C.2.1 dX5_keepsWithin_82 (by decide) ?_
          exact ea_zret C hw (by decide) hf dX5_keepsWithin_83
set_option maxHeartbeats 4000000 in
set_option maxRecDepth 20000 in
theorem wX5_keepsWithin_0 (C : ea_C p s m args meth cd cX5_keepsWithin 9 (some .boolean) RX5) (hX : ea_X ids) (ho0 : ea_ok ids a0 5) (ho2 : ea_ok ids a2 20) (ho3 : ea_ok ids a3 20) : ∀ (x1 : Int32) (x4 : Int32) (M : eM) (H : Heap) (locs : List Loc) (ls : Array Slot), fX5_keepsWithin_0 a0 a2 a3 x1 x4 M = some res → ea_w E ids M s H locs → lv_has ls 9 [(0, .ref (E.1 a0)), (1, .int x1), (2, .ref (E.1 a2)), (3, .ref (E.1 a3)), (4, .int x4)] → W p l e (ea_rm 0 0) s m args below meth cd H locs 0 0 (MQ below (ea_Qi E ids res) args s 0 0 (ea_Ad E ids)) (F0 m 0 ls []) := by
  intro x1 x4 M H locs ls hf  hw hl
  replace hf := (fX5_keepsWithin_0.eq_1 ..).symm.trans hf
  refine lv_aload_n C.1 C.2.1 dX5_keepsWithin_0 rfl (lv_at hl 0 rfl) ?_
  refine gf_X5_15 C hw ho0 dX5_keepsWithin_1 ?_
  refine gf_X5_39 C hw (hX 4 9 rfl) dX5_keepsWithin_4 ?_
  refine W.eq (g2 := F0 m 7 ls [.ref (E.1 5)]) rfl ?_
  refine lv_iload_n C.1 C.2.1 dX5_keepsWithin_7 rfl (lv_at hl 1 rfl) ?_
  obtain ⟨hc1, hf⟩ := ea_ck_s hf
  refine ea_iald C hw (show ea_ok ids 5 20 from ok_9_2 (hX 4 9 rfl)) hc1 dX5_keepsWithin_8 ?_
  refine lv_iconst (v := 3) C.1 C.2.1 dX5_keepsWithin_9 (by decide) ?_
  refine lv_imul C.1 C.2.1 dX5_keepsWithin_10 ?_
  obtain ⟨y2, ey3, hf⟩ := ea_lt_s hf
  refine ea_topi ey3 ?_
  refine lv_istore (lv' := [(5, .int y2), (0, .ref (E.1 a0)), (1, .int x1), (2, .ref (E.1 a2)), (3, .ref (E.1 a3)), (4, .int x4)]) C.1 C.2.1 dX5_keepsWithin_11 hl (by decide) rfl (fun ls hl => ?_)
  refine lv_aload_n C.1 C.2.1 dX5_keepsWithin_13 rfl (lv_at hl 1 rfl) ?_
  refine gf_X5_15 C hw ho0 dX5_keepsWithin_14 ?_
  refine gf_X5_42 C hw (hX 4 9 rfl) dX5_keepsWithin_17 ?_
  refine W.eq (g2 := F0 m 20 ls [.ref (E.1 6)]) rfl ?_
  refine lv_iload_n C.1 C.2.1 dX5_keepsWithin_20 rfl (lv_at hl 2 rfl) ?_
  obtain ⟨hc4, hf⟩ := ea_ck_s hf
  refine ea_iald C hw (show ea_ok ids 6 20 from ok_9_3 (hX 4 9 rfl)) hc4 dX5_keepsWithin_21 ?_
  refine lv_iconst (v := 3) C.1 C.2.1 dX5_keepsWithin_22 (by decide) ?_
  refine lv_imul C.1 C.2.1 dX5_keepsWithin_23 ?_
  obtain ⟨y5, ey6, hf⟩ := ea_lt_s hf
  refine ea_topi ey6 ?_
  refine lv_istore (lv' := [(6, .int y5), (5, .int y2), (0, .ref (E.1 a0)), (1, .int x1), (2, .ref (E.1 a2)), (3, .ref (E.1 a3)), (4, .int x4)]) C.1 C.2.1 dX5_keepsWithin_24 hl (by decide) rfl (fun ls hl => ?_)
  refine lv_iconst (v := 0) C.1 C.2.1 dX5_keepsWithin_26 (by decide) ?_
  refine lv_istore (lv' := [(7, .int (0 : Int32)), (6, .int y5), (5, .int y2), (0, .ref (E.1 a0)), (1, .int x1), (2, .ref (E.1 a2)), (3, .ref (E.1 a3)), (4, .int x4)]) C.1 C.2.1 dX5_keepsWithin_27 hl (by decide) rfl (fun ls hl => ?_)
  exact wX5_keepsWithin_29 C hX ho0 ho2 ho3 ea_N _ _ _ _ _ _ _ _ hf hw (lv_sub hl [3, 5, 6, 7, 2, 1, 0] rfl)
set_option maxHeartbeats 4000000 in
set_option maxRecDepth 20000 in
theorem mX5_keepsWithin {l : Launch} {E : eE} {ids : List Nat} (hX : ea_X ids) {a0 : Nat} {x1 : Int32} {a2 : Nat} {a3 : Nat} {x4 : Int32} (ho0 : ea_ok ids a0 5) (ho2 : ea_ok ids a2 20) (ho3 : ea_ok ids a3 20) {M : eM} {res : Int32 × eM} (hf : fX5_keepsWithin a0 a2 a3 x1 x4 M = some res) : ea_Mi l yX5_keepsWithin cX5_keepsWithin 9 (some .boolean) 0 0 E ids [.ref (E.1 a0), .int x1, .ref (E.1 a2), .ref (E.1 a3), .int x4] M res := by
  refine ea_goi (by decide) (Nat.le_of_ble_eq_true rfl) wc_X5_keepsWithin ?_
  intro p e s m below meth cd ls C hw hl
  exact wX5_keepsWithin_0 C hX ho0 ho2 ho3 _ _ _ _ _ _ hf hw hl
end SX5_keepsWithin

def fX3_narrow_56 (k2 : Int32 → Int32 → Int32 → eM → Option (eM)) (a0 : Nat) (x1 : Int32) (x2 : Int32) (x3 : Int32) (M : eM) : Option (eM) := k2 x1 x2 (x3 + (1 : Int32)) M
def fX3_narrow_2 (a0 : Nat) : Nat → Int32 → Int32 → Int32 → eM → Option (eM)
  | 0, _, _, _, _ => none
  | n + 1, x1, x2, x3, M => if (M.1 4 1) ≤ x3 then (some M) else (ea_ck (ea_ix x3 (ea_len (a0 + 3))) (if ((M.1 (a0 + 3) x3.toNatClampNeg) &&& x1) = 0 then (fX3_narrow_56 (fX3_narrow_2 a0 n) a0 x1 x2 x3 M) else (ea_ci (fX5_keepsWithin (a0 + 1) (a0 + 8) (a0 + 9) x3 x2 M) (fun r5 M6 => if r5 = 0 then (ea_ck (ea_ix x3 (ea_len (a0 + 3))) (ea_ck (ea_ix x3 (ea_len (a0 + 3))) (fX3_narrow_56 (fX3_narrow_2 a0 n) a0 x1 x2 x3 (ea_pI M6 (a0 + 3) (x3.toNatClampNeg) ((M6.1 (a0 + 3) x3.toNatClampNeg) &&& (x1 ^^^ (-1 : Int32))))))) else (fX3_narrow_56 (fX3_narrow_2 a0 n) a0 x1 x2 x3 M6)))))
def fX3_narrow_0 (a0 : Nat) (x1 : Int32) (x2 : Int32) (M : eM) : Option (eM) := fX3_narrow_2 a0 ea_N x1 x2 (0 : Int32) M
def fX3_narrow (a0 : Nat) (x1 : Int32) (x2 : Int32) (M : eM) : Option (eM) := fX3_narrow_0 a0 x1 x2 M
section SX3_narrow
variable {p : Program} {l : Launch} {e : Env} {s : State} {m : MethodId} {args : Array Value} {below : List Frame} {meth : Method} {cd : Code} {E : eE} {ids : List Nat} {res : eM} {a0 : Nat}
set_option maxHeartbeats 4000000 in
set_option maxRecDepth 20000 in
theorem wX3_narrow_56 (C : ea_C p s m args meth cd cX3_narrow 4 none RX3) (hX : ea_X ids) (ho0 : ea_ok ids a0 3) {k2 : Int32 → Int32 → Int32 → eM → Option (eM)} (hk2 : ∀ (x1 : Int32) (x2 : Int32) (x3 : Int32) (M : eM) (H : Heap) (locs : List Loc) (ls : Array Slot), k2 x1 x2 x3 M = some res → ea_w E ids M s H locs → lv_has ls 4 [(0, .ref (E.1 a0)), (1, .int x1), (2, .int x2), (3, .int x3)] → W p l e (ea_rm 1 28) s m args below meth cd H locs 0 0 (MQ below (ea_Qv E ids res) args s 0 0 (ea_Ad E ids)) (F0 m 2 ls [])) : ∀ (x1 : Int32) (x2 : Int32) (x3 : Int32) (M : eM) (H : Heap) (locs : List Loc) (ls : Array Slot), fX3_narrow_56 k2 a0 x1 x2 x3 M = some res → ea_w E ids M s H locs → lv_has ls 4 [(0, .ref (E.1 a0)), (1, .int x1), (2, .int x2), (3, .int x3)] → W p l e (ea_rm 1 28) s m args below meth cd H locs 0 0 (MQ below (ea_Qv E ids res) args s 0 0 (ea_Ad E ids)) (F0 m 56 ls []) := by
  intro x1 x2 x3 M H locs ls hf  hw hl
  replace hf := (fX3_narrow_56.eq_1 ..).symm.trans hf
  refine lv_iinc (v := x3 + (1 : Int32)) (lv' := [(3, .int (x3 + (1 : Int32))), (0, .ref (E.1 a0)), (1, .int x1), (2, .int x2)]) C.1 C.2.1 dX3_narrow_56 hl (k := 3) rfl rfl (by decide) rfl (fun ls hl => ?_)
  refine lv_goto (tgt := 2) C.1 C.2.1 dX3_narrow_59 (by decide) ?_
  exact hk2 _ _ _ _ _ _ _ hf hw (lv_sub hl [1, 2, 3, 0] rfl)
set_option maxHeartbeats 4000000 in
set_option maxRecDepth 20000 in
theorem wX3_narrow_2 (C : ea_C p s m args meth cd cX3_narrow 4 none RX3) (hX : ea_X ids) (ho0 : ea_ok ids a0 3) : ∀ (n : Nat) (x1 : Int32) (x2 : Int32) (x3 : Int32) (M : eM) (H : Heap) (locs : List Loc) (ls : Array Slot), fX3_narrow_2 a0 n x1 x2 x3 M = some res → ea_w E ids M s H locs → lv_has ls 4 [(0, .ref (E.1 a0)), (1, .int x1), (2, .int x2), (3, .int x3)] → W p l e (ea_rm 1 28) s m args below meth cd H locs 0 0 (MQ below (ea_Qv E ids res) args s 0 0 (ea_Ad E ids)) (F0 m 2 ls []) := by
  intro n
  induction n with
  | zero => intro x1 x2 x3 M H locs ls hf; cases hf
  | succ n ih =>
    intro x1 x2 x3 M H locs ls hf  hw hl
    replace hf := (fX3_narrow_2.eq_2 ..).symm.trans hf
    refine lv_iload_n C.1 C.2.1 dX3_narrow_2 rfl (lv_at hl 3 rfl) ?_
    refine lv_aload_n C.1 C.2.1 dX3_narrow_3 rfl (lv_at hl 0 rfl) ?_
    refine gf_X3_37 C hw ho0 dX3_narrow_4 ?_
    refine gf_X3_72 C hw (hX 4 9 rfl) dX3_narrow_7 ?_
    refine lv_icmp_ge (tgt := 62) C.1 C.2.1 dX3_narrow_10 (by decide) (fun hc1 => ?_) (fun hc1 => ?_)
    · replace hf := ea_if_t hc1 hf
      exact ea_vret C hw hf dX3_narrow_62
    · replace hf := ea_if_f hc1 hf
      refine lv_aload_n C.1 C.2.1 dX3_narrow_13 rfl (lv_at hl 0 rfl) ?_
      refine gf_X3_13 C hw ho0 dX3_narrow_14 ?_
      refine lv_iload_n C.1 C.2.1 dX3_narrow_17 rfl (lv_at hl 3 rfl) ?_
      obtain ⟨hc2, hf⟩ := ea_ck_s hf
      refine ea_iald C hw (ok_3_3 ho0) hc2 dX3_narrow_18 ?_
      refine lv_iload_n C.1 C.2.1 dX3_narrow_19 rfl (lv_at hl 1 rfl) ?_
      refine lv_iand C.1 C.2.1 dX3_narrow_20 ?_
      refine lv_if_eq (tgt := 56) C.1 C.2.1 dX3_narrow_21 (by decide) (fun hc3 => ?_) (fun hc3 => ?_)
      · replace hf := ea_if_t hc3 hf
        exact wX3_narrow_56 C hX ho0 ih _ _ _ _ _ _ _ hf hw (lv_sub hl [0, 1, 2, 3] rfl)
      · replace hf := ea_if_f hc3 hf
        refine lv_aload_n C.1 C.2.1 dX3_narrow_24 rfl (lv_at hl 0 rfl) ?_
        refine gf_X3_50 C hw ho0 dX3_narrow_25 ?_
        refine lv_iload_n C.1 C.2.1 dX3_narrow_28 rfl (lv_at hl 3 rfl) ?_
        refine lv_aload_n C.1 C.2.1 dX3_narrow_29 rfl (lv_at hl 0 rfl) ?_
        refine gf_X3_31 C hw ho0 dX3_narrow_30 ?_
        refine lv_aload_n C.1 C.2.1 dX3_narrow_33 rfl (lv_at hl 0 rfl) ?_
        refine gf_X3_34 C hw ho0 dX3_narrow_34 ?_
        refine lv_iload_n C.1 C.2.1 dX3_narrow_37 rfl (lv_at hl 2 rfl) ?_
        obtain ⟨r5, M6, he4, hf⟩ := ea_ci_s hf
        refine ea_runi2 hw (cl_X3_136 C hw (ok_3_2 ho0) (As := [.int x3, .ref (E.1 (a0 + 8)), .ref (E.1 (a0 + 9)), .int x2]) (rest := []) (mX5_keepsWithin (l := l) (E := E) (ids := ids) hX (ok_3_2 ho0) (ok_3_13 ho0) (ok_3_14 ho0) he4) (by decide) rfl hl.1 rfl (Nat.le_of_ble_eq_true rfl) dX3_narrow_38 ⟨Nat.le_refl _, Nat.le_refl _⟩) (fun H locs hw => ?_)
        refine lv_if_ne (tgt := 56) C.1 C.2.1 dX3_narrow_41 (by decide) (fun hc7 => ?_) (fun hc7 => ?_)
        · replace hf := ea_if_f hc7 hf
          exact wX3_narrow_56 C hX ho0 ih _ _ _ _ _ _ _ hf hw (lv_sub hl [0, 1, 2, 3] rfl)
        · replace hf := ea_if_t hc7 hf
          refine lv_aload_n C.1 C.2.1 dX3_narrow_44 rfl (lv_at hl 0 rfl) ?_
          refine gf_X3_13 C hw ho0 dX3_narrow_45 ?_
          refine lv_iload_n C.1 C.2.1 dX3_narrow_48 rfl (lv_at hl 3 rfl) ?_
          refine lv_dup2_11 C.1 C.2.1 dX3_narrow_49 rfl rfl ?_
          obtain ⟨hc8, hf⟩ := ea_ck_s hf
          refine ea_iald C hw (ok_3_3 ho0) hc8 dX3_narrow_50 ?_
          refine lv_iload_n C.1 C.2.1 dX3_narrow_51 rfl (lv_at hl 1 rfl) ?_
          refine lv_iconst (v := (-1 : Int32)) C.1 C.2.1 dX3_narrow_52 (by decide) ?_
          refine lv_ixor C.1 C.2.1 dX3_narrow_53 ?_
          refine lv_iand C.1 C.2.1 dX3_narrow_54 ?_
          obtain ⟨hc9, hf⟩ := ea_ck_s hf
          refine ea_iast C hw (ok_3_3 ho0) hc9 dX3_narrow_55 (fun H locs hw => ?_)
          exact wX3_narrow_56 C hX ho0 ih _ _ _ _ _ _ _ hf hw (lv_sub hl [0, 1, 2, 3] rfl)
set_option maxHeartbeats 4000000 in
set_option maxRecDepth 20000 in
theorem wX3_narrow_0 (C : ea_C p s m args meth cd cX3_narrow 4 none RX3) (hX : ea_X ids) (ho0 : ea_ok ids a0 3) : ∀ (x1 : Int32) (x2 : Int32) (M : eM) (H : Heap) (locs : List Loc) (ls : Array Slot), fX3_narrow_0 a0 x1 x2 M = some res → ea_w E ids M s H locs → lv_has ls 4 [(0, .ref (E.1 a0)), (1, .int x1), (2, .int x2)] → W p l e (ea_rm 1 28) s m args below meth cd H locs 0 0 (MQ below (ea_Qv E ids res) args s 0 0 (ea_Ad E ids)) (F0 m 0 ls []) := by
  intro x1 x2 M H locs ls hf  hw hl
  replace hf := (fX3_narrow_0.eq_1 ..).symm.trans hf
  refine lv_iconst (v := 0) C.1 C.2.1 dX3_narrow_0 (by decide) ?_
  refine lv_istore_n (lv' := [(3, .int (0 : Int32)), (0, .ref (E.1 a0)), (1, .int x1), (2, .int x2)]) C.1 C.2.1 dX3_narrow_1 rfl hl (by decide) rfl (fun ls hl => ?_)
  exact wX3_narrow_2 C hX ho0 ea_N _ _ _ _ _ _ _ hf hw (lv_sub hl [1, 2, 3, 0] rfl)
set_option maxHeartbeats 4000000 in
set_option maxRecDepth 20000 in
theorem mX3_narrow {l : Launch} {E : eE} {ids : List Nat} (hX : ea_X ids) {a0 : Nat} {x1 : Int32} {x2 : Int32} (ho0 : ea_ok ids a0 3) {M : eM} {res : eM} (hf : fX3_narrow a0 x1 x2 M = some res) : ea_Mv l yX3_narrow cX3_narrow 4 1 28 E ids [.ref (E.1 a0), .int x1, .int x2] M res := by
  refine ea_gov (by decide) (Nat.le_of_ble_eq_true rfl) wc_X3_narrow ?_
  intro p e s m below meth cd ls C hw hl
  exact wX3_narrow_0 C hX ho0 _ _ _ _ _ _ hf hw hl
end SX3_narrow

def fX3_sumUp_107 (k22 : Int32 → eM → Option (eM)) (a0 : Nat) (x1 : Int32) (M : eM) : Option (eM) := k22 (x1 + (1 : Int32)) M
def fX3_sumUp_104 (k22 : Int32 → eM → Option (eM)) (a0 : Nat) (x1 : Int32) (t0 : Int32) (M : eM) : Option (eM) := fX3_sumUp_107 k22 a0 x1 (ea_pI M a0 9 t0)
def fX3_sumUp_22 (a0 : Nat) : Nat → Int32 → eM → Option (eM)
  | 0, _, _ => none
  | n + 1, x1, M => if (M.1 4 1) ≤ x1 then (some M) else (ea_ck (ea_ix x1 (ea_len (a0 + 3))) (if (M.1 (a0 + 3) x1.toNatClampNeg) = 0 then (fX3_sumUp_107 (fX3_sumUp_22 a0 n) a0 x1 M) else (ea_ck (ea_ix x1 (ea_len (a0 + 3))) (ea_ci (fJ6_bitCount_0f7a4 (M.1 (a0 + 3) x1.toNatClampNeg) M) (fun r6 M7 => ea_ck (ea_ix x1 (ea_len (a0 + 3))) (if ((ea_pI (ea_pI (ea_pI M7 a0 6 ((M.1 a0 6) + r6)) a0 7 (((ea_pI M7 a0 6 ((M.1 a0 6) + r6)).1 a0 7) + (((ea_pI M7 a0 6 ((M.1 a0 6) + r6)).1 (a0 + 3) x1.toNatClampNeg) &&& (1 : Int32)))) a0 8 (((ea_pI (ea_pI M7 a0 6 ((M.1 a0 6) + r6)) a0 7 (((ea_pI M7 a0 6 ((M.1 a0 6) + r6)).1 a0 7) + (((ea_pI M7 a0 6 ((M.1 a0 6) + r6)).1 (a0 + 3) x1.toNatClampNeg) &&& (1 : Int32)))).1 a0 8) + (1 : Int32))).1 a0 9) = (-1 : Int32) then (fX3_sumUp_104 (fX3_sumUp_22 a0 n) a0 x1 x1 (ea_pI (ea_pI (ea_pI M7 a0 6 ((M.1 a0 6) + r6)) a0 7 (((ea_pI M7 a0 6 ((M.1 a0 6) + r6)).1 a0 7) + (((ea_pI M7 a0 6 ((M.1 a0 6) + r6)).1 (a0 + 3) x1.toNatClampNeg) &&& (1 : Int32)))) a0 8 (((ea_pI (ea_pI M7 a0 6 ((M.1 a0 6) + r6)) a0 7 (((ea_pI M7 a0 6 ((M.1 a0 6) + r6)).1 a0 7) + (((ea_pI M7 a0 6 ((M.1 a0 6) + r6)).1 (a0 + 3) x1.toNatClampNeg) &&& (1 : Int32)))).1 a0 8) + (1 : Int32)))) else (fX3_sumUp_104 (fX3_sumUp_22 a0 n) a0 x1 ((ea_pI (ea_pI (ea_pI M7 a0 6 ((M.1 a0 6) + r6)) a0 7 (((ea_pI M7 a0 6 ((M.1 a0 6) + r6)).1 a0 7) + (((ea_pI M7 a0 6 ((M.1 a0 6) + r6)).1 (a0 + 3) x1.toNatClampNeg) &&& (1 : Int32)))) a0 8 (((ea_pI (ea_pI M7 a0 6 ((M.1 a0 6) + r6)) a0 7 (((ea_pI M7 a0 6 ((M.1 a0 6) + r6)).1 a0 7) + (((ea_pI M7 a0 6 ((M.1 a0 6) + r6)).1 (a0 + 3) x1.toNatClampNeg) &&& (1 : Int32)))).1 a0 8) + (1 : Int32))).1 a0 9) (ea_pI (ea_pI (ea_pI M7 a0 6 ((M.1 a0 6) + r6)) a0 7 (((ea_pI M7 a0 6 ((M.1 a0 6) + r6)).1 a0 7) + (((ea_pI M7 a0 6 ((M.1 a0 6) + r6)).1 (a0 + 3) x1.toNatClampNeg) &&& (1 : Int32)))) a0 8 (((ea_pI (ea_pI M7 a0 6 ((M.1 a0 6) + r6)) a0 7 (((ea_pI M7 a0 6 ((M.1 a0 6) + r6)).1 a0 7) + (((ea_pI M7 a0 6 ((M.1 a0 6) + r6)).1 (a0 + 3) x1.toNatClampNeg) &&& (1 : Int32)))).1 a0 8) + (1 : Int32))))))))))
def fX3_sumUp_0 (a0 : Nat) (M : eM) : Option (eM) := fX3_sumUp_22 a0 ea_N (0 : Int32) (ea_pI (ea_pI (ea_pI (ea_pI M a0 6 (0 : Int32)) a0 7 (0 : Int32)) a0 8 (0 : Int32)) a0 9 (-1 : Int32))
def fX3_sumUp (a0 : Nat) (M : eM) : Option (eM) := fX3_sumUp_0 a0 M
section SX3_sumUp
variable {p : Program} {l : Launch} {e : Env} {s : State} {m : MethodId} {args : Array Value} {below : List Frame} {meth : Method} {cd : Code} {E : eE} {ids : List Nat} {res : eM} {a0 : Nat}
set_option maxHeartbeats 4000000 in
set_option maxRecDepth 20000 in
theorem wX3_sumUp_107 (C : ea_C p s m args meth cd cX3_sumUp 2 none RX3) (hX : ea_X ids) (ho0 : ea_ok ids a0 3) {k22 : Int32 → eM → Option (eM)} (hk22 : ∀ (x1 : Int32) (M : eM) (H : Heap) (locs : List Loc) (ls : Array Slot), k22 x1 M = some res → ea_w E ids M s H locs → lv_has ls 2 [(0, .ref (E.1 a0)), (1, .int x1)] → W p l e (ea_rm 1 20) s m args below meth cd H locs 0 0 (MQ below (ea_Qv E ids res) args s 0 0 (ea_Ad E ids)) (F0 m 22 ls [])) : ∀ (x1 : Int32) (M : eM) (H : Heap) (locs : List Loc) (ls : Array Slot), fX3_sumUp_107 k22 a0 x1 M = some res → ea_w E ids M s H locs → lv_has ls 2 [(0, .ref (E.1 a0)), (1, .int x1)] → W p l e (ea_rm 1 20) s m args below meth cd H locs 0 0 (MQ below (ea_Qv E ids res) args s 0 0 (ea_Ad E ids)) (F0 m 107 ls []) := by
  intro x1 M H locs ls hf  hw hl
  replace hf := (fX3_sumUp_107.eq_1 ..).symm.trans hf
  refine lv_iinc (v := x1 + (1 : Int32)) (lv' := [(1, .int (x1 + (1 : Int32))), (0, .ref (E.1 a0))]) C.1 C.2.1 dX3_sumUp_107 hl (k := 1) rfl rfl (by decide) rfl (fun ls hl => ?_)
  refine lv_goto (tgt := 22) C.1 C.2.1 dX3_sumUp_110 (by decide) ?_
  exact hk22 _ _ _ _ _ hf hw (lv_sub hl [1, 0] rfl)
set_option maxHeartbeats 4000000 in
set_option maxRecDepth 20000 in
theorem wX3_sumUp_104 (C : ea_C p s m args meth cd cX3_sumUp 2 none RX3) (hX : ea_X ids) (ho0 : ea_ok ids a0 3) {k22 : Int32 → eM → Option (eM)} (hk22 : ∀ (x1 : Int32) (M : eM) (H : Heap) (locs : List Loc) (ls : Array Slot), k22 x1 M = some res → ea_w E ids M s H locs → lv_has ls 2 [(0, .ref (E.1 a0)), (1, .int x1)] → W p l e (ea_rm 1 20) s m args below meth cd H locs 0 0 (MQ below (ea_Qv E ids res) args s 0 0 (ea_Ad E ids)) (F0 m 22 ls [])) : ∀ (x1 : Int32) (t0 : Int32) (M : eM) (H : Heap) (locs : List Loc) (ls : Array Slot), fX3_sumUp_104 k22 a0 x1 t0 M = some res → ea_w E ids M s H locs → lv_has ls 2 [(0, .ref (E.1 a0)), (1, .int x1)] → W p l e (ea_rm 1 20) s m args below meth cd H locs 0 0 (MQ below (ea_Qv E ids res) args s 0 0 (ea_Ad E ids)) (F0 m 104 ls [.int t0, .ref (E.1 a0)]) := by
  intro x1 t0 M H locs ls hf  hw hl
  replace hf := (fX3_sumUp_104.eq_1 ..).symm.trans hf
  refine pu_X3_147 C hw ho0 dX3_sumUp_104 (fun H locs hw => ?_)
  exact wX3_sumUp_107 C hX ho0 hk22 _ _ _ _ _ hf hw (lv_sub hl [0, 1] rfl)
set_option maxHeartbeats 4000000 in
set_option maxRecDepth 20000 in
theorem wX3_sumUp_22 (C : ea_C p s m args meth cd cX3_sumUp 2 none RX3) (hX : ea_X ids) (ho0 : ea_ok ids a0 3) : ∀ (n : Nat) (x1 : Int32) (M : eM) (H : Heap) (locs : List Loc) (ls : Array Slot), fX3_sumUp_22 a0 n x1 M = some res → ea_w E ids M s H locs → lv_has ls 2 [(0, .ref (E.1 a0)), (1, .int x1)] → W p l e (ea_rm 1 20) s m args below meth cd H locs 0 0 (MQ below (ea_Qv E ids res) args s 0 0 (ea_Ad E ids)) (F0 m 22 ls []) := by
  intro n
  induction n with
  | zero => intro x1 M H locs ls hf; cases hf
  | succ n ih =>
    intro x1 M H locs ls hf  hw hl
    replace hf := (fX3_sumUp_22.eq_2 ..).symm.trans hf
    refine lv_iload_n C.1 C.2.1 dX3_sumUp_22 rfl (lv_at hl 1 rfl) ?_
    refine lv_aload_n C.1 C.2.1 dX3_sumUp_23 rfl (lv_at hl 0 rfl) ?_
    refine gf_X3_37 C hw ho0 dX3_sumUp_24 ?_
    refine gf_X3_72 C hw (hX 4 9 rfl) dX3_sumUp_27 ?_
    refine lv_icmp_ge (tgt := 113) C.1 C.2.1 dX3_sumUp_30 (by decide) (fun hc1 => ?_) (fun hc1 => ?_)
    · replace hf := ea_if_t hc1 hf
      exact ea_vret C hw hf dX3_sumUp_113
    · replace hf := ea_if_f hc1 hf
      refine lv_aload_n C.1 C.2.1 dX3_sumUp_33 rfl (lv_at hl 0 rfl) ?_
      refine gf_X3_13 C hw ho0 dX3_sumUp_34 ?_
      refine lv_iload_n C.1 C.2.1 dX3_sumUp_37 rfl (lv_at hl 1 rfl) ?_
      obtain ⟨hc2, hf⟩ := ea_ck_s hf
      refine ea_iald C hw (ok_3_3 ho0) hc2 dX3_sumUp_38 ?_
      refine lv_if_eq (tgt := 107) C.1 C.2.1 dX3_sumUp_39 (by decide) (fun hc3 => ?_) (fun hc3 => ?_)
      · replace hf := ea_if_t hc3 hf
        exact wX3_sumUp_107 C hX ho0 ih _ _ _ _ _ hf hw (lv_sub hl [0, 1] rfl)
      · replace hf := ea_if_f hc3 hf
        refine lv_aload_n C.1 C.2.1 dX3_sumUp_42 rfl (lv_at hl 0 rfl) ?_
        refine lv_dup C.1 C.2.1 dX3_sumUp_43 rfl ?_
        refine gf_X3_140 C hw ho0 dX3_sumUp_44 ?_
        refine lv_aload_n C.1 C.2.1 dX3_sumUp_47 rfl (lv_at hl 0 rfl) ?_
        refine gf_X3_13 C hw ho0 dX3_sumUp_48 ?_
        refine lv_iload_n C.1 C.2.1 dX3_sumUp_51 rfl (lv_at hl 1 rfl) ?_
        obtain ⟨hc4, hf⟩ := ea_ck_s hf
        refine ea_iald C hw (ok_3_3 ho0) hc4 dX3_sumUp_52 ?_
        obtain ⟨r6, M7, he5, hf⟩ := ea_ci_s hf
        refine ea_runi2 hw (cl_X3_150 C hw (As := [.int (M.1 (a0 + 3) x1.toNatClampNeg)]) (rest := [.int (M.1 a0 6), .ref (E.1 a0)]) (mJ6_bitCount_0f7a4 (l := l) (E := E) (ids := ids) he5) (by decide) rfl hl.1 rfl (Nat.le_of_ble_eq_true rfl) dX3_sumUp_53 ⟨Nat.le_refl _, Nat.le_refl _⟩) (fun H locs hw => ?_)
        refine lv_iadd C.1 C.2.1 dX3_sumUp_56 ?_
        refine pu_X3_140 C hw ho0 dX3_sumUp_57 (fun H locs hw => ?_)
        refine lv_aload_n C.1 C.2.1 dX3_sumUp_60 rfl (lv_at hl 0 rfl) ?_
        refine lv_dup C.1 C.2.1 dX3_sumUp_61 rfl ?_
        refine gf_X3_143 C hw ho0 dX3_sumUp_62 ?_
        refine lv_aload_n C.1 C.2.1 dX3_sumUp_65 rfl (lv_at hl 0 rfl) ?_
        refine gf_X3_13 C hw ho0 dX3_sumUp_66 ?_
        refine lv_iload_n C.1 C.2.1 dX3_sumUp_69 rfl (lv_at hl 1 rfl) ?_
        obtain ⟨hc8, hf⟩ := ea_ck_s hf
        refine ea_iald C hw (ok_3_3 ho0) hc8 dX3_sumUp_70 ?_
        refine lv_iconst (v := 1) C.1 C.2.1 dX3_sumUp_71 (by decide) ?_
        refine lv_iand C.1 C.2.1 dX3_sumUp_72 ?_
        refine lv_iadd C.1 C.2.1 dX3_sumUp_73 ?_
        refine pu_X3_143 C hw ho0 dX3_sumUp_74 (fun H locs hw => ?_)
        refine lv_aload_n C.1 C.2.1 dX3_sumUp_77 rfl (lv_at hl 0 rfl) ?_
        refine lv_dup C.1 C.2.1 dX3_sumUp_78 rfl ?_
        refine gf_X3_146 C hw ho0 dX3_sumUp_79 ?_
        refine lv_iconst (v := 1) C.1 C.2.1 dX3_sumUp_82 (by decide) ?_
        refine lv_iadd C.1 C.2.1 dX3_sumUp_83 ?_
        refine pu_X3_146 C hw ho0 dX3_sumUp_84 (fun H locs hw => ?_)
        refine lv_aload_n C.1 C.2.1 dX3_sumUp_87 rfl (lv_at hl 0 rfl) ?_
        refine lv_aload_n C.1 C.2.1 dX3_sumUp_88 rfl (lv_at hl 0 rfl) ?_
        refine gf_X3_147 C hw ho0 dX3_sumUp_89 ?_
        refine lv_iconst (v := (-1 : Int32)) C.1 C.2.1 dX3_sumUp_92 (by decide) ?_
        refine lv_icmp_ne (tgt := 100) C.1 C.2.1 dX3_sumUp_93 (by decide) (fun hc9 => ?_) (fun hc9 => ?_)
        · replace hf := ea_if_f hc9 hf
          refine lv_aload_n C.1 C.2.1 dX3_sumUp_100 rfl (lv_at hl 0 rfl) ?_
          refine gf_X3_147 C hw ho0 dX3_sumUp_101 ?_
          exact wX3_sumUp_104 C hX ho0 ih _ _ _ _ _ _ hf hw (lv_sub hl [0, 1] rfl)
        · replace hf := ea_if_t hc9 hf
          refine lv_iload_n C.1 C.2.1 dX3_sumUp_96 rfl (lv_at hl 1 rfl) ?_
          refine lv_goto (tgt := 104) C.1 C.2.1 dX3_sumUp_97 (by decide) ?_
          exact wX3_sumUp_104 C hX ho0 ih _ _ _ _ _ _ hf hw (lv_sub hl [0, 1] rfl)
set_option maxHeartbeats 4000000 in
set_option maxRecDepth 20000 in
theorem wX3_sumUp_0 (C : ea_C p s m args meth cd cX3_sumUp 2 none RX3) (hX : ea_X ids) (ho0 : ea_ok ids a0 3) : ∀  (M : eM) (H : Heap) (locs : List Loc) (ls : Array Slot), fX3_sumUp_0 a0 M = some res → ea_w E ids M s H locs → lv_has ls 2 [(0, .ref (E.1 a0))] → W p l e (ea_rm 1 20) s m args below meth cd H locs 0 0 (MQ below (ea_Qv E ids res) args s 0 0 (ea_Ad E ids)) (F0 m 0 ls []) := by
  intro M H locs ls hf  hw hl
  replace hf := (fX3_sumUp_0.eq_1 ..).symm.trans hf
  refine lv_aload_n C.1 C.2.1 dX3_sumUp_0 rfl (lv_at hl 0 rfl) ?_
  refine lv_iconst (v := 0) C.1 C.2.1 dX3_sumUp_1 (by decide) ?_
  refine pu_X3_140 C hw ho0 dX3_sumUp_2 (fun H locs hw => ?_)
  refine lv_aload_n C.1 C.2.1 dX3_sumUp_5 rfl (lv_at hl 0 rfl) ?_
  refine lv_iconst (v := 0) C.1 C.2.1 dX3_sumUp_6 (by decide) ?_
  refine pu_X3_143 C hw ho0 dX3_sumUp_7 (fun H locs hw => ?_)
  refine lv_aload_n C.1 C.2.1 dX3_sumUp_10 rfl (lv_at hl 0 rfl) ?_
  refine lv_iconst (v := 0) C.1 C.2.1 dX3_sumUp_11 (by decide) ?_
  refine pu_X3_146 C hw ho0 dX3_sumUp_12 (fun H locs hw => ?_)
  refine lv_aload_n C.1 C.2.1 dX3_sumUp_15 rfl (lv_at hl 0 rfl) ?_
  refine lv_iconst (v := (-1 : Int32)) C.1 C.2.1 dX3_sumUp_16 (by decide) ?_
  refine pu_X3_147 C hw ho0 dX3_sumUp_17 (fun H locs hw => ?_)
  refine lv_iconst (v := 0) C.1 C.2.1 dX3_sumUp_20 (by decide) ?_
  refine lv_istore_n (lv' := [(1, .int (0 : Int32)), (0, .ref (E.1 a0))]) C.1 C.2.1 dX3_sumUp_21 rfl hl (by decide) rfl (fun ls hl => ?_)
  exact wX3_sumUp_22 C hX ho0 ea_N _ _ _ _ _ hf hw (lv_sub hl [1, 0] rfl)
set_option maxHeartbeats 4000000 in
set_option maxRecDepth 20000 in
theorem mX3_sumUp {l : Launch} {E : eE} {ids : List Nat} (hX : ea_X ids) {a0 : Nat} (ho0 : ea_ok ids a0 3) {M : eM} {res : eM} (hf : fX3_sumUp a0 M = some res) : ea_Mv l yX3_sumUp cX3_sumUp 2 1 20 E ids [.ref (E.1 a0)] M res := by
  refine ea_gov (by decide) (Nat.le_of_ble_eq_true rfl) wc_X3_sumUp ?_
  intro p e s m below meth cd ls C hw hl
  exact wX3_sumUp_0 C hX ho0  _ _ _ _ hf hw hl
end SX3_sumUp

def fX9_rowOf_0 (x0 : Int32) (x1 : Int32) (M : eM) : Option (Int32 × eM) := some (((x0 * (9 : Int32)) + x1) - (1 : Int32), M)
def fX9_rowOf (x0 : Int32) (x1 : Int32) (M : eM) : Option (Int32 × eM) := fX9_rowOf_0 x0 x1 M
section SX9_rowOf
variable {p : Program} {l : Launch} {e : Env} {s : State} {m : MethodId} {args : Array Value} {below : List Frame} {meth : Method} {cd : Code} {E : eE} {ids : List Nat} {res : Int32 × eM}
set_option maxHeartbeats 4000000 in
set_option maxRecDepth 20000 in
theorem wX9_rowOf_0 (C : ea_C p s m args meth cd cX9_rowOf 2 (some .int) RX9) (hX : ea_X ids) : ∀ (x0 : Int32) (x1 : Int32) (M : eM) (H : Heap) (locs : List Loc) (ls : Array Slot), fX9_rowOf_0 x0 x1 M = some res → ea_w E ids M s H locs → lv_has ls 2 [(0, .int x0), (1, .int x1)] → W p l e (ea_rm 0 0) s m args below meth cd H locs 0 0 (MQ below (ea_Qi E ids res) args s 0 0 (ea_Ad E ids)) (F0 m 0 ls []) := by
  intro x0 x1 M H locs ls hf  hw hl
  replace hf := (fX9_rowOf_0.eq_1 ..).symm.trans hf
  refine lv_iload_n C.1 C.2.1 dX9_rowOf_0 rfl (lv_at hl 0 rfl) ?_
  refine lv_bipush (v := 9) C.1 C.2.1 dX9_rowOf_1 (by decide) ?_
  refine lv_imul C.1 C.2.1 dX9_rowOf_3 ?_
  refine lv_iload_n C.1 C.2.1 dX9_rowOf_4 rfl (lv_at hl 1 rfl) ?_
  refine lv_iadd C.1 C.2.1 dX9_rowOf_5 ?_
  refine lv_iconst (v := 1) C.1 C.2.1 dX9_rowOf_6 (by decide) ?_
  refine lv_isub C.1 C.2.1 dX9_rowOf_7 ?_
  exact ea_iret C hw hf dX9_rowOf_8
set_option maxHeartbeats 4000000 in
set_option maxRecDepth 20000 in
theorem mX9_rowOf {l : Launch} {E : eE} {ids : List Nat} (hX : ea_X ids) {x0 : Int32} {x1 : Int32} {M : eM} {res : Int32 × eM} (hf : fX9_rowOf x0 x1 M = some res) : ea_Mi l yX9_rowOf cX9_rowOf 2 (some .int) 0 0 E ids [.int x0, .int x1] M res := by
  refine ea_goi (by decide) (Nat.le_of_ble_eq_true rfl) wc_X9_rowOf ?_
  intro p e s m below meth cd ls C hw hl
  exact wX9_rowOf_0 C hX _ _ _ _ _ _ hf hw hl
end SX9_rowOf

def fX5_mix_47 (k88 : Int32 → Nat → Int32 → Int32 → Int32 → eM → Option (eM)) (a0 : Nat) : Nat → Int32 → Nat → Int32 → Int32 → Int32 → Int32 → Int32 → eM → Option (eM)
  | 0, _, _, _, _, _, _, _, _ => none
  | n + 1, x1, q2, x3, x4, x5, x6, x7, M => if (9 : Int32) < x7 then (k88 x1 q2 x3 x4 x5 M) else (ea_ci (fX9_rowOf x3 x7 M) (fun r3 M4 => ea_ck (ea_ix ((r3 * (3 : Int32)) + x5) (ea_len (a0 + 1))) (fX5_mix_47 k88 a0 n x1 q2 x3 x4 x5 x6 (x7 + (1 : Int32)) (ea_pI M4 (a0 + 1) (((r3 * (3 : Int32)) + x5).toNatClampNeg) (((x7 * x6) * x4) / (9000 : Int32))))))
def fX5_mix_88 (k29 : Int32 → Nat → Int32 → Int32 → Int32 → eM → Option (eM)) (a0 : Nat) (x1 : Int32) (q2 : Nat) (x3 : Int32) (x4 : Int32) (x5 : Int32) (M : eM) : Option (eM) := k29 x1 q2 x3 x4 (x5 + (1 : Int32)) M
def fX5_mix_29 (k94 : Int32 → Nat → Int32 → eM → Option (eM)) (a0 : Nat) : Nat → Int32 → Nat → Int32 → Int32 → Int32 → eM → Option (eM)
  | 0, _, _, _, _, _, _ => none
  | n + 1, x1, q2, x3, x4, x5, M => if (3 : Int32) ≤ x5 then (k94 x1 q2 x3 M) else (ea_ci (fX1_takesOf q2 x3 x5 M) (fun r3 M4 => fX5_mix_47 (fX5_mix_88 (fX5_mix_29 k94 a0 n) a0) a0 ea_N x1 q2 x3 x4 x5 r3 (1 : Int32) M4))
def fX5_mix_94 (k10 : Int32 → Nat → Int32 → eM → Option (eM)) (a0 : Nat) (x1 : Int32) (q2 : Nat) (x3 : Int32) (M : eM) : Option (eM) := k10 x1 q2 (x3 + (1 : Int32)) M
def fX5_mix_10 (a0 : Nat) : Nat → Int32 → Nat → Int32 → eM → Option (eM)
  | 0, _, _, _, _ => none
  | n + 1, x1, q2, x3, M => if (M.1 q2 8) ≤ x3 then (some M) else (ea_ci (fX1_strengthOf q2 x3 x1 M) (fun r3 M4 => fX5_mix_29 (fX5_mix_94 (fX5_mix_10 a0 n) a0) a0 ea_N x1 q2 x3 r3 (0 : Int32) M4))
def fX5_mix_0 (a0 : Nat) (x1 : Int32) (M : eM) : Option (eM) := ea_ck (ea_is (M.2.2 4 0) 1) (ea_lt (M.2.2 4 0) (fun y2 => fX5_mix_10 a0 ea_N x1 y2 (0 : Int32) M))
def fX5_mix (a0 : Nat) (x1 : Int32) (M : eM) : Option (eM) := fX5_mix_0 a0 x1 M
section SX5_mix
variable {p : Program} {l : Launch} {e : Env} {s : State} {m : MethodId} {args : Array Value} {below : List Frame} {meth : Method} {cd : Code} {E : eE} {ids : List Nat} {res : eM} {a0 : Nat}
set_option maxHeartbeats 4000000 in
set_option maxRecDepth 20000 in
theorem wX5_mix_47 (C : ea_C p s m args meth cd cX5_mix 8 none RX5) (hX : ea_X ids) (ho0 : ea_ok ids a0 5) {k88 : Int32 → Nat → Int32 → Int32 → Int32 → eM → Option (eM)} (hk88 : ∀ (x1 : Int32) (q2 : Nat) (x3 : Int32) (x4 : Int32) (x5 : Int32) (M : eM) (H : Heap) (locs : List Loc) (ls : Array Slot), k88 x1 q2 x3 x4 x5 M = some res → ea_ok ids q2 1 → ea_w E ids M s H locs → lv_has ls 8 [(0, .ref (E.1 a0)), (1, .int x1), (2, .ref (E.1 q2)), (3, .int x3), (4, .int x4), (5, .int x5)] → W p l e (ea_rm 2 47) s m args below meth cd H locs 0 0 (MQ below (ea_Qv E ids res) args s 0 0 (ea_Ad E ids)) (F0 m 88 ls [])) : ∀ (n : Nat) (x1 : Int32) (q2 : Nat) (x3 : Int32) (x4 : Int32) (x5 : Int32) (x6 : Int32) (x7 : Int32) (M : eM) (H : Heap) (locs : List Loc) (ls : Array Slot), fX5_mix_47 k88 a0 n x1 q2 x3 x4 x5 x6 x7 M = some res → ea_ok ids q2 1 → ea_w E ids M s H locs → lv_has ls 8 [(0, .ref (E.1 a0)), (1, .int x1), (2, .ref (E.1 q2)), (3, .int x3), (4, .int x4), (5, .int x5), (6, .int x6), (7, .int x7)] → W p l e (ea_rm 2 47) s m args below meth cd H locs 0 0 (MQ below (ea_Qv E ids res) args s 0 0 (ea_Ad E ids)) (F0 m 47 ls []) := by
  intro n
  induction n with
  | zero => intro x1 q2 x3 x4 x5 x6 x7 M H locs ls hf; cases hf
  | succ n ih =>
    intro x1 q2 x3 x4 x5 x6 x7 M H locs ls hf hq2 hw hl
    replace hf := (fX5_mix_47.eq_2 ..).symm.trans hf
    refine lv_iload C.1 C.2.1 dX5_mix_47 (lv_at hl 7 rfl) ?_
    refine lv_bipush (v := 9) C.1 C.2.1 dX5_mix_49 (by decide) ?_
    refine lv_icmp_gt (tgt := 88) C.1 C.2.1 dX5_mix_51 (by decide) (fun hc1 => ?_) (fun hc1 => ?_)
    · replace hf := ea_if_t hc1 hf
      exact hk88 _ _ _ _ _ _ _ _ _ hf hq2 hw (lv_sub hl [0, 1, 2, 3, 4, 5] rfl)
    · replace hf := ea_if_f hc1 hf
      refine lv_aload_n C.1 C.2.1 dX5_mix_54 rfl (lv_at hl 0 rfl) ?_
      refine gf_X5_9 C hw ho0 dX5_mix_55 ?_
      refine lv_iload_n C.1 C.2.1 dX5_mix_58 rfl (lv_at hl 3 rfl) ?_
      refine lv_iload C.1 C.2.1 dX5_mix_59 (lv_at hl 7 rfl) ?_
      obtain ⟨r3, M4, he2, hf⟩ := ea_ci_s hf
      refine ea_runi2 hw (cl_X5_36 C hw (As := [.int x3, .int x7]) (rest := [.ref (E.1 (a0 + 1))]) (mX9_rowOf (l := l) (E := E) (ids := ids) hX he2) (by decide) rfl hl.1 rfl (Nat.le_of_ble_eq_true rfl) dX5_mix_61 ⟨Nat.le_refl _, Nat.le_refl _⟩) (fun H locs hw => ?_)
      refine lv_iconst (v := 3) C.1 C.2.1 dX5_mix_64 (by decide) ?_
      refine lv_imul C.1 C.2.1 dX5_mix_65 ?_
      refine lv_iload C.1 C.2.1 dX5_mix_66 (lv_at hl 5 rfl) ?_
      refine lv_iadd C.1 C.2.1 dX5_mix_68 ?_
      refine lv_iload C.1 C.2.1 dX5_mix_69 (lv_at hl 7 rfl) ?_
      refine lv_iload C.1 C.2.1 dX5_mix_71 (lv_at hl 6 rfl) ?_
      refine lv_imul C.1 C.2.1 dX5_mix_73 ?_
      refine lv_iload C.1 C.2.1 dX5_mix_74 (lv_at hl 4 rfl) ?_
      refine lv_imul C.1 C.2.1 dX5_mix_76 ?_
      refine lv_sipush (v := 9000) C.1 C.2.1 dX5_mix_77 (by decide) ?_
      refine lv_idiv C.1 C.2.1 dX5_mix_80 (by decide) ?_
      obtain ⟨hc5, hf⟩ := ea_ck_s hf
      refine ea_iast C hw (ok_5_1 ho0) hc5 dX5_mix_81 (fun H locs hw => ?_)
      refine lv_iinc (v := x7 + (1 : Int32)) (lv' := [(7, .int (x7 + (1 : Int32))), (0, .ref (E.1 a0)), (1, .int x1), (2, .ref (E.1 q2)), (3, .int x3), (4, .int x4), (5, .int x5), (6, .int x6)]) C.1 C.2.1 dX5_mix_82 hl (k := 7) rfl rfl (by decide) rfl (fun ls hl => ?_)
      refine lv_goto (tgt := 47) C.1 C.2.1 dX5_mix_85 (by decide) ?_
      exact ih _ _ _ _ _ _ _ _ _ _ _ hf hq2 hw (lv_sub hl [1, 2, 3, 4, 5, 6, 7, 0] rfl)
set_option maxHeartbeats 4000000 in
set_option maxRecDepth 20000 in
theorem wX5_mix_88 (C : ea_C p s m args meth cd cX5_mix 8 none RX5) (hX : ea_X ids) (ho0 : ea_ok ids a0 5) {k29 : Int32 → Nat → Int32 → Int32 → Int32 → eM → Option (eM)} (hk29 : ∀ (x1 : Int32) (q2 : Nat) (x3 : Int32) (x4 : Int32) (x5 : Int32) (M : eM) (H : Heap) (locs : List Loc) (ls : Array Slot), k29 x1 q2 x3 x4 x5 M = some res → ea_ok ids q2 1 → ea_w E ids M s H locs → lv_has ls 8 [(0, .ref (E.1 a0)), (1, .int x1), (2, .ref (E.1 q2)), (3, .int x3), (4, .int x4), (5, .int x5)] → W p l e (ea_rm 2 47) s m args below meth cd H locs 0 0 (MQ below (ea_Qv E ids res) args s 0 0 (ea_Ad E ids)) (F0 m 29 ls [])) : ∀ (x1 : Int32) (q2 : Nat) (x3 : Int32) (x4 : Int32) (x5 : Int32) (M : eM) (H : Heap) (locs : List Loc) (ls : Array Slot), fX5_mix_88 k29 a0 x1 q2 x3 x4 x5 M = some res → ea_ok ids q2 1 → ea_w E ids M s H locs → lv_has ls 8 [(0, .ref (E.1 a0)), (1, .int x1), (2, .ref (E.1 q2)), (3, .int x3), (4, .int x4), (5, .int x5)] → W p l e (ea_rm 2 47) s m args below meth cd H locs 0 0 (MQ below (ea_Qv E ids res) args s 0 0 (ea_Ad E ids)) (F0 m 88 ls []) := by
  intro x1 q2 x3 x4 x5 M H locs ls hf hq2 hw hl
  replace hf := (fX5_mix_88.eq_1 ..).symm.trans hf
  refine lv_iinc (v := x5 + (1 : Int32)) (lv' := [(5, .int (x5 + (1 : Int32))), (0, .ref (E.1 a0)), (1, .int x1), (2, .ref (E.1 q2)), (3, .int x3), (4, .int x4)]) C.1 C.2.1 dX5_mix_88 hl (k := 5) rfl rfl (by decide) rfl (fun ls hl => ?_)
  refine lv_goto (tgt := 29) C.1 C.2.1 dX5_mix_91 (by decide) ?_
  exact hk29 _ _ _ _ _ _ _ _ _ hf hq2 hw (lv_sub hl [1, 2, 3, 4, 5, 0] rfl)
set_option maxHeartbeats 4000000 in
set_option maxRecDepth 20000 in
theorem wX5_mix_29 (C : ea_C p s m args meth cd cX5_mix 8 none RX5) (hX : ea_X ids) (ho0 : ea_ok ids a0 5) {k94 : Int32 → Nat → Int32 → eM → Option (eM)} (hk94 : ∀ (x1 : Int32) (q2 : Nat) (x3 : Int32) (M : eM) (H : Heap) (locs : List Loc) (ls : Array Slot), k94 x1 q2 x3 M = some res → ea_ok ids q2 1 → ea_w E ids M s H locs → lv_has ls 8 [(0, .ref (E.1 a0)), (1, .int x1), (2, .ref (E.1 q2)), (3, .int x3)] → W p l e (ea_rm 2 47) s m args below meth cd H locs 0 0 (MQ below (ea_Qv E ids res) args s 0 0 (ea_Ad E ids)) (F0 m 94 ls [])) : ∀ (n : Nat) (x1 : Int32) (q2 : Nat) (x3 : Int32) (x4 : Int32) (x5 : Int32) (M : eM) (H : Heap) (locs : List Loc) (ls : Array Slot), fX5_mix_29 k94 a0 n x1 q2 x3 x4 x5 M = some res → ea_ok ids q2 1 → ea_w E ids M s H locs → lv_has ls 8 [(0, .ref (E.1 a0)), (1, .int x1), (2, .ref (E.1 q2)), (3, .int x3), (4, .int x4), (5, .int x5)] → W p l e (ea_rm 2 47) s m args below meth cd H locs 0 0 (MQ below (ea_Qv E ids res) args s 0 0 (ea_Ad E ids)) (F0 m 29 ls []) := by
  intro n
  induction n with
  | zero => intro x1 q2 x3 x4 x5 M H locs ls hf; cases hf
  | succ n ih =>
    intro x1 q2 x3 x4 x5 M H locs ls hf hq2 hw hl
    replace hf := (fX5_mix_29.eq_2 ..).symm.trans hf
    refine lv_iload C.1 C.2.1 dX5_mix_29 (lv_at hl 5 rfl) ?_
    refine lv_iconst (v := 3) C.1 C.2.1 dX5_mix_31 (by decide) ?_
    refine lv_icmp_ge (tgt := 94) C.1 C.2.1 dX5_mix_32 (by decide) (fun hc1 => ?_) (fun hc1 => ?_)
    · replace hf := ea_if_t hc1 hf
      exact hk94 _ _ _ _ _ _ _ hf hq2 hw (lv_sub hl [0, 1, 2, 3] rfl)
    · replace hf := ea_if_f hc1 hf
      refine lv_aload_n C.1 C.2.1 dX5_mix_35 rfl (lv_at hl 2 rfl) ?_
      refine lv_iload_n C.1 C.2.1 dX5_mix_36 rfl (lv_at hl 3 rfl) ?_
      refine lv_iload C.1 C.2.1 dX5_mix_37 (lv_at hl 5 rfl) ?_
      obtain ⟨r3, M4, he2, hf⟩ := ea_ci_s hf
      refine ea_runi2 hw (cl_X5_33 C hw hq2 (As := [.int x3, .int x5]) (rest := []) (mX1_takesOf (l := l) (E := E) (ids := ids) hX hq2 he2) (by decide) rfl hl.1 rfl (Nat.le_of_ble_eq_true rfl) dX5_mix_39 ⟨Nat.le_refl _, Nat.le_refl _⟩) (fun H locs hw => ?_)
      refine lv_istore (lv' := [(6, .int r3), (0, .ref (E.1 a0)), (1, .int x1), (2, .ref (E.1 q2)), (3, .int x3), (4, .int x4), (5, .int x5)]) C.1 C.2.1 dX5_mix_42 hl (by decide) rfl (fun ls hl => ?_)
      refine lv_iconst (v := 1) C.1 C.2.1 dX5_mix_44 (by decide) ?_
      refine lv_istore (lv' := [(7, .int (1 : Int32)), (6, .int r3), (0, .ref (E.1 a0)), (1, .int x1), (2, .ref (E.1 q2)), (3, .int x3), (4, .int x4), (5, .int x5)]) C.1 C.2.1 dX5_mix_45 hl (by decide) rfl (fun ls hl => ?_)
      exact wX5_mix_47 C hX ho0 (wX5_mix_88 C hX ho0 ih) ea_N _ _ _ _ _ _ _ _ _ _ _ hf hq2 hw (lv_sub hl [2, 3, 4, 5, 6, 7, 1, 0] rfl)
set_option maxHeartbeats 4000000 in
set_option maxRecDepth 20000 in
theorem wX5_mix_94 (C : ea_C p s m args meth cd cX5_mix 8 none RX5) (hX : ea_X ids) (ho0 : ea_ok ids a0 5) {k10 : Int32 → Nat → Int32 → eM → Option (eM)} (hk10 : ∀ (x1 : Int32) (q2 : Nat) (x3 : Int32) (M : eM) (H : Heap) (locs : List Loc) (ls : Array Slot), k10 x1 q2 x3 M = some res → ea_ok ids q2 1 → ea_w E ids M s H locs → lv_has ls 8 [(0, .ref (E.1 a0)), (1, .int x1), (2, .ref (E.1 q2)), (3, .int x3)] → W p l e (ea_rm 2 47) s m args below meth cd H locs 0 0 (MQ below (ea_Qv E ids res) args s 0 0 (ea_Ad E ids)) (F0 m 10 ls [])) : ∀ (x1 : Int32) (q2 : Nat) (x3 : Int32) (M : eM) (H : Heap) (locs : List Loc) (ls : Array Slot), fX5_mix_94 k10 a0 x1 q2 x3 M = some res → ea_ok ids q2 1 → ea_w E ids M s H locs → lv_has ls 8 [(0, .ref (E.1 a0)), (1, .int x1), (2, .ref (E.1 q2)), (3, .int x3)] → W p l e (ea_rm 2 47) s m args below meth cd H locs 0 0 (MQ below (ea_Qv E ids res) args s 0 0 (ea_Ad E ids)) (F0 m 94 ls []) := by
  intro x1 q2 x3 M H locs ls hf hq2 hw hl
  replace hf := (fX5_mix_94.eq_1 ..).symm.trans hf
  refine lv_iinc (v := x3 + (1 : Int32)) (lv' := [(3, .int (x3 + (1 : Int32))), (0, .ref (E.1 a0)), (1, .int x1), (2, .ref (E.1 q2))]) C.1 C.2.1 dX5_mix_94 hl (k := 3) rfl rfl (by decide) rfl (fun ls hl => ?_)
  refine lv_goto (tgt := 10) C.1 C.2.1 dX5_mix_97 (by decide) ?_
  exact hk10 _ _ _ _ _ _ _ hf hq2 hw (lv_sub hl [1, 2, 3, 0] rfl)
set_option maxHeartbeats 4000000 in
set_option maxRecDepth 20000 in
theorem wX5_mix_10 (C : ea_C p s m args meth cd cX5_mix 8 none RX5) (hX : ea_X ids) (ho0 : ea_ok ids a0 5) : ∀ (n : Nat) (x1 : Int32) (q2 : Nat) (x3 : Int32) (M : eM) (H : Heap) (locs : List Loc) (ls : Array Slot), fX5_mix_10 a0 n x1 q2 x3 M = some res → ea_ok ids q2 1 → ea_w E ids M s H locs → lv_has ls 8 [(0, .ref (E.1 a0)), (1, .int x1), (2, .ref (E.1 q2)), (3, .int x3)] → W p l e (ea_rm 2 47) s m args below meth cd H locs 0 0 (MQ below (ea_Qv E ids res) args s 0 0 (ea_Ad E ids)) (F0 m 10 ls []) := by
  intro n
  induction n with
  | zero => intro x1 q2 x3 M H locs ls hf; cases hf
  | succ n ih =>
    intro x1 q2 x3 M H locs ls hf hq2 hw hl
    replace hf := (fX5_mix_10.eq_2 ..).symm.trans hf
    refine lv_iload_n C.1 C.2.1 dX5_mix_10 rfl (lv_at hl 3 rfl) ?_
    refine lv_aload_n C.1 C.2.1 dX5_mix_11 rfl (lv_at hl 2 rfl) ?_
    refine gf_X5_23 C hw hq2 dX5_mix_12 ?_
    refine lv_icmp_ge (tgt := 100) C.1 C.2.1 dX5_mix_15 (by decide) (fun hc1 => ?_) (fun hc1 => ?_)
    · replace hf := ea_if_t hc1 hf
      exact ea_vret C hw hf dX5_mix_100
    · replace hf := ea_if_f hc1 hf
      refine lv_aload_n C.1 C.2.1 dX5_mix_18 rfl (lv_at hl 2 rfl) ?_
      refine lv_iload_n C.1 C.2.1 dX5_mix_19 rfl (lv_at hl 3 rfl) ?_
      refine lv_iload_n C.1 C.2.1 dX5_mix_20 rfl (lv_at hl 1 rfl) ?_
      obtain ⟨r3, M4, he2, hf⟩ := ea_ci_s hf
      refine ea_runi2 hw (cl_X5_29 C hw hq2 (As := [.int x3, .int x1]) (rest := []) (mX1_strengthOf (l := l) (E := E) (ids := ids) hX hq2 he2) (by decide) rfl hl.1 rfl (Nat.le_of_ble_eq_true rfl) dX5_mix_21 ⟨Nat.le_refl _, Nat.le_refl _⟩) (fun H locs hw => ?_)
      refine lv_istore (lv' := [(4, .int r3), (0, .ref (E.1 a0)), (1, .int x1), (2, .ref (E.1 q2)), (3, .int x3)]) C.1 C.2.1 dX5_mix_24 hl (by decide) rfl (fun ls hl => ?_)
      refine lv_iconst (v := 0) C.1 C.2.1 dX5_mix_26 (by decide) ?_
      refine lv_istore (lv' := [(5, .int (0 : Int32)), (4, .int r3), (0, .ref (E.1 a0)), (1, .int x1), (2, .ref (E.1 q2)), (3, .int x3)]) C.1 C.2.1 dX5_mix_27 hl (by decide) rfl (fun ls hl => ?_)
      exact wX5_mix_29 C hX ho0 (wX5_mix_94 C hX ho0 ih) ea_N _ _ _ _ _ _ _ _ _ hf hq2 hw (lv_sub hl [2, 3, 4, 5, 1, 0] rfl)
set_option maxHeartbeats 4000000 in
set_option maxRecDepth 20000 in
theorem wX5_mix_0 (C : ea_C p s m args meth cd cX5_mix 8 none RX5) (hX : ea_X ids) (ho0 : ea_ok ids a0 5) : ∀ (x1 : Int32) (M : eM) (H : Heap) (locs : List Loc) (ls : Array Slot), fX5_mix_0 a0 x1 M = some res → ea_w E ids M s H locs → lv_has ls 8 [(0, .ref (E.1 a0)), (1, .int x1)] → W p l e (ea_rm 2 47) s m args below meth cd H locs 0 0 (MQ below (ea_Qv E ids res) args s 0 0 (ea_Ad E ids)) (F0 m 0 ls []) := by
  intro x1 M H locs ls hf  hw hl
  replace hf := (fX5_mix_0.eq_1 ..).symm.trans hf
  refine lv_aload_n C.1 C.2.1 dX5_mix_0 rfl (lv_at hl 0 rfl) ?_
  refine gf_X5_15 C hw ho0 dX5_mix_1 ?_
  refine gf_X5_19 C hw (hX 4 9 rfl) dX5_mix_4 ?_
  obtain ⟨hc1, hf⟩ := ea_ck_s hf
  obtain ⟨y2, ey3, hf⟩ := ea_lt_s hf
  refine ea_topr ey3 ?_
  have ho_y2 : ea_ok ids y2 1 := by rw [← ey3]; exact (ea_dyn hX hc1)
  refine lv_astore_n (lv' := [(2, .ref (E.1 y2)), (0, .ref (E.1 a0)), (1, .int x1)]) C.1 C.2.1 dX5_mix_7 rfl hl (by decide) rfl (fun ls hl => ?_)
  refine lv_iconst (v := 0) C.1 C.2.1 dX5_mix_8 (by decide) ?_
  refine lv_istore_n (lv' := [(3, .int (0 : Int32)), (2, .ref (E.1 y2)), (0, .ref (E.1 a0)), (1, .int x1)]) C.1 C.2.1 dX5_mix_9 rfl hl (by decide) rfl (fun ls hl => ?_)
  exact wX5_mix_10 C hX ho0 ea_N _ _ _ _ _ _ _ hf ho_y2 hw (lv_sub hl [2, 3, 1, 0] rfl)
set_option maxHeartbeats 4000000 in
set_option maxRecDepth 20000 in
theorem mX5_mix {l : Launch} {E : eE} {ids : List Nat} (hX : ea_X ids) {a0 : Nat} {x1 : Int32} (ho0 : ea_ok ids a0 5) {M : eM} {res : eM} (hf : fX5_mix a0 x1 M = some res) : ea_Mv l yX5_mix cX5_mix 8 2 47 E ids [.ref (E.1 a0), .int x1] M res := by
  refine ea_gov (by decide) (Nat.le_of_ble_eq_true rfl) wc_X5_mix ?_
  intro p e s m below meth cd ls C hw hl
  exact wX5_mix_0 C hX ho0 _ _ _ _ _ hf hw hl
end SX5_mix

def fX3_find_75 (k134 : Int32 → Nat → Int32 → Int32 → Int32 → eM → Option (eM)) (a0 : Nat) : Nat → Int32 → Nat → Int32 → Int32 → Int32 → Int32 → Int32 → eM → Option (eM)
  | 0, _, _, _, _, _, _, _, _ => none
  | n + 1, x2, q4, x5, x6, x7, x8, x9, M => if (M.1 a0 10) ≤ x9 then (k134 x2 q4 x5 x6 x7 M) else (ea_ck (ea_ix x9 (ea_len (a0 + 6))) (ea_ci (fX1_hoursOf q4 x2 x5 x8 (M.1 (a0 + 6) x9.toNatClampNeg) M) (fun r4 M5 => ea_ck (ea_ix x9 (ea_len (a0 + 7))) (ea_cv (fX5_mix (a0 + 1) (r4 + (M5.1 (a0 + 7) x9.toNatClampNeg)) M5) (fun M8 => ea_cv (fX3_narrow a0 ((1 : Int32) <<< (x7 &&& 31)) (x9 * (3 : Int32)) M8) (fun M10 => fX3_find_75 k134 a0 n x2 q4 x5 x6 x7 x8 (x9 + (1 : Int32)) M10))))))
def fX3_find_134 (k56 : Int32 → Nat → Int32 → Int32 → Int32 → eM → Option (eM)) (a0 : Nat) (x2 : Int32) (q4 : Nat) (x5 : Int32) (x6 : Int32) (x7 : Int32) (M : eM) : Option (eM) := k56 x2 q4 x5 x6 (x7 + (1 : Int32)) M
def fX3_find_56 (k140 : eM → Option (eM)) (a0 : Nat) : Nat → Int32 → Nat → Int32 → Int32 → Int32 → eM → Option (eM)
  | 0, _, _, _, _, _, _ => none
  | n + 1, x2, q4, x5, x6, x7, M => if x6 ≤ x7 then (k140 M) else (ea_ci (fX1_yearFrom q4 x7 M) (fun r3 M4 => fX3_find_75 (fX3_find_134 (fX3_find_56 k140 a0 n) a0) a0 ea_N x2 q4 x5 x6 x7 r3 (0 : Int32) M4))
def fX3_find_140 (a0 : Nat) (M : eM) : Option (eM) := ea_cv (fX3_sumUp a0 M) (fun M2 => some M2)
def fX3_find_0 (a0 : Nat) (x1 : Int32) (x2 : Int32) (x3 : Int32) (M : eM) : Option (eM) := ea_ck (ea_is (M.2.2 4 0) 1) (ea_lt (M.2.2 4 0) (fun y2 => ea_ci (fX1_columnOf y2 x1 M) (fun r5 M6 => ea_lt ((M6.1 y2 6) + (1 : Int32)) (fun y7 => ea_cv (fX3_gather a0 x1 x3 M6) (fun M10 => ea_cv (fJ7_fill_fda19 (a0 + 3) (0 : Int32) (M10.1 4 1) (((1 : Int32) <<< (y7 &&& 31)) - (1 : Int32)) M10) (fun M12 => fX3_find_56 (fX3_find_140 a0) a0 ea_N x2 y2 r5 y7 (0 : Int32) M12))))))
def fX3_find (a0 : Nat) (x1 : Int32) (x2 : Int32) (x3 : Int32) (M : eM) : Option (eM) := fX3_find_0 a0 x1 x2 x3 M
section SX3_find
variable {p : Program} {l : Launch} {e : Env} {s : State} {m : MethodId} {args : Array Value} {below : List Frame} {meth : Method} {cd : Code} {E : eE} {ids : List Nat} {res : eM} {a0 : Nat}
set_option maxHeartbeats 4000000 in
set_option maxRecDepth 20000 in
theorem wX3_find_75 (C : ea_C p s m args meth cd cX3_find 10 none RX3) (hX : ea_X ids) (ho0 : ea_ok ids a0 3) {k134 : Int32 → Nat → Int32 → Int32 → Int32 → eM → Option (eM)} (hk134 : ∀ (x2 : Int32) (q4 : Nat) (x5 : Int32) (x6 : Int32) (x7 : Int32) (M : eM) (H : Heap) (locs : List Loc) (ls : Array Slot), k134 x2 q4 x5 x6 x7 M = some res → ea_ok ids q4 1 → ea_w E ids M s H locs → lv_has ls 10 [(0, .ref (E.1 a0)), (2, .int x2), (4, .ref (E.1 q4)), (5, .int x5), (6, .int x6), (7, .int x7)] → W p l e (ea_rm 3 74) s m args below meth cd H locs 0 0 (MQ below (ea_Qv E ids res) args s 0 0 (ea_Ad E ids)) (F0 m 134 ls [])) : ∀ (n : Nat) (x2 : Int32) (q4 : Nat) (x5 : Int32) (x6 : Int32) (x7 : Int32) (x8 : Int32) (x9 : Int32) (M : eM) (H : Heap) (locs : List Loc) (ls : Array Slot), fX3_find_75 k134 a0 n x2 q4 x5 x6 x7 x8 x9 M = some res → ea_ok ids q4 1 → ea_w E ids M s H locs → lv_has ls 10 [(0, .ref (E.1 a0)), (2, .int x2), (4, .ref (E.1 q4)), (5, .int x5), (6, .int x6), (7, .int x7), (8, .int x8), (9, .int x9)] → W p l e (ea_rm 3 74) s m args below meth cd H locs 0 0 (MQ below (ea_Qv E ids res) args s 0 0 (ea_Ad E ids)) (F0 m 75 ls []) := by
  intro n
  induction n with
  | zero => intro x2 q4 x5 x6 x7 x8 x9 M H locs ls hf; cases hf
  | succ n ih =>
    intro x2 q4 x5 x6 x7 x8 x9 M H locs ls hf hq4 hw hl
    replace hf := (fX3_find_75.eq_2 ..).symm.trans hf
    refine lv_iload C.1 C.2.1 dX3_find_75 (lv_at hl 7 rfl) ?_
    refine lv_aload_n C.1 C.2.1 dX3_find_77 rfl (lv_at hl 0 rfl) ?_
    refine gf_X3_84 C hw ho0 dX3_find_78 ?_
    refine lv_icmp_ge (tgt := 134) C.1 C.2.1 dX3_find_81 (by decide) (fun hc1 => ?_) (fun hc1 => ?_)
    · replace hf := ea_if_t hc1 hf
      exact hk134 _ _ _ _ _ _ _ _ _ hf hq4 hw (lv_sub hl [0, 1, 2, 3, 4, 5] rfl)
    · replace hf := ea_if_f hc1 hf
      refine lv_aload_n C.1 C.2.1 dX3_find_84 rfl (lv_at hl 0 rfl) ?_
      refine gf_X3_50 C hw ho0 dX3_find_85 ?_
      refine lv_aload C.1 C.2.1 dX3_find_88 (lv_at hl 2 rfl) ?_
      refine lv_iload_n C.1 C.2.1 dX3_find_90 rfl (lv_at hl 1 rfl) ?_
      refine lv_iload C.1 C.2.1 dX3_find_91 (lv_at hl 3 rfl) ?_
      refine lv_iload C.1 C.2.1 dX3_find_93 (lv_at hl 6 rfl) ?_
      refine lv_aload_n C.1 C.2.1 dX3_find_95 rfl (lv_at hl 0 rfl) ?_
      refine gf_X3_25 C hw ho0 dX3_find_96 ?_
      refine lv_iload C.1 C.2.1 dX3_find_99 (lv_at hl 7 rfl) ?_
      obtain ⟨hc2, hf⟩ := ea_ck_s hf
      refine ea_iald C hw (ok_3_11 ho0) hc2 dX3_find_101 ?_
      obtain ⟨r4, M5, he3, hf⟩ := ea_ci_s hf
      refine ea_runi2 hw (cl_X3_87 C hw hq4 (As := [.int x2, .int x5, .int x8, .int (M.1 (a0 + 6) x9.toNatClampNeg)]) (rest := [.ref (E.1 (a0 + 1))]) (mX1_hoursOf (l := l) (E := E) (ids := ids) hX hq4 he3) (by decide) rfl hl.1 rfl (Nat.le_of_ble_eq_true rfl) dX3_find_102 ⟨Nat.le_refl _, Nat.le_refl _⟩) (fun H locs hw => ?_)
      refine lv_aload_n C.1 C.2.1 dX3_find_105 rfl (lv_at hl 0 rfl) ?_
      refine gf_X3_28 C hw ho0 dX3_find_106 ?_
      refine lv_iload C.1 C.2.1 dX3_find_109 (lv_at hl 7 rfl) ?_
      obtain ⟨hc6, hf⟩ := ea_ck_s hf
      refine ea_iald C hw (ok_3_12 ho0) hc6 dX3_find_111 ?_
      refine lv_iadd C.1 C.2.1 dX3_find_112 ?_
      obtain ⟨M8, he7, hf⟩ := ea_cv_s hf
      refine ea_runv hw (cl_X3_91 C hw (ok_3_2 ho0) (As := [.int (r4 + (M5.1 (a0 + 7) x9.toNatClampNeg))]) (rest := []) (mX5_mix (l := l) (E := E) (ids := ids) hX (ok_3_2 ho0) he7) (by decide) rfl hl.1 rfl (Nat.le_of_ble_eq_true rfl) dX3_find_113 ⟨Nat.le_refl _, Nat.le_refl _⟩) (fun H locs hw => ?_)
      refine lv_aload_n C.1 C.2.1 dX3_find_116 rfl (lv_at hl 0 rfl) ?_
      refine lv_iconst (v := 1) C.1 C.2.1 dX3_find_117 (by decide) ?_
      refine lv_iload C.1 C.2.1 dX3_find_118 (lv_at hl 5 rfl) ?_
      refine lv_ishl C.1 C.2.1 dX3_find_120 ?_
      refine lv_iload C.1 C.2.1 dX3_find_121 (lv_at hl 7 rfl) ?_
      refine lv_iconst (v := 3) C.1 C.2.1 dX3_find_123 (by decide) ?_
      refine lv_imul C.1 C.2.1 dX3_find_124 ?_
      obtain ⟨M10, he9, hf⟩ := ea_cv_s hf
      refine ea_runv hw (cl_X3_95 C hw ho0 (As := [.int ((1 : Int32) <<< (x7 &&& 31)), .int (x9 * (3 : Int32))]) (rest := []) (mX3_narrow (l := l) (E := E) (ids := ids) hX ho0 he9) (by decide) rfl hl.1 rfl (Nat.le_of_ble_eq_true rfl) dX3_find_125 ⟨Nat.le_refl _, Nat.le_refl _⟩) (fun H locs hw => ?_)
      refine lv_iinc (v := x9 + (1 : Int32)) (lv' := [(9, .int (x9 + (1 : Int32))), (0, .ref (E.1 a0)), (2, .int x2), (4, .ref (E.1 q4)), (5, .int x5), (6, .int x6), (7, .int x7), (8, .int x8)]) C.1 C.2.1 dX3_find_128 hl (k := 7) rfl rfl (by decide) rfl (fun ls hl => ?_)
      refine lv_goto (tgt := 75) C.1 C.2.1 dX3_find_131 (by decide) ?_
      exact ih _ _ _ _ _ _ _ _ _ _ _ hf hq4 hw (lv_sub hl [1, 2, 3, 4, 5, 6, 7, 0] rfl)
set_option maxHeartbeats 4000000 in
set_option maxRecDepth 20000 in
theorem wX3_find_134 (C : ea_C p s m args meth cd cX3_find 10 none RX3) (hX : ea_X ids) (ho0 : ea_ok ids a0 3) {k56 : Int32 → Nat → Int32 → Int32 → Int32 → eM → Option (eM)} (hk56 : ∀ (x2 : Int32) (q4 : Nat) (x5 : Int32) (x6 : Int32) (x7 : Int32) (M : eM) (H : Heap) (locs : List Loc) (ls : Array Slot), k56 x2 q4 x5 x6 x7 M = some res → ea_ok ids q4 1 → ea_w E ids M s H locs → lv_has ls 10 [(0, .ref (E.1 a0)), (2, .int x2), (4, .ref (E.1 q4)), (5, .int x5), (6, .int x6), (7, .int x7)] → W p l e (ea_rm 3 74) s m args below meth cd H locs 0 0 (MQ below (ea_Qv E ids res) args s 0 0 (ea_Ad E ids)) (F0 m 56 ls [])) : ∀ (x2 : Int32) (q4 : Nat) (x5 : Int32) (x6 : Int32) (x7 : Int32) (M : eM) (H : Heap) (locs : List Loc) (ls : Array Slot), fX3_find_134 k56 a0 x2 q4 x5 x6 x7 M = some res → ea_ok ids q4 1 → ea_w E ids M s H locs → lv_has ls 10 [(0, .ref (E.1 a0)), (2, .int x2), (4, .ref (E.1 q4)), (5, .int x5), (6, .int x6), (7, .int x7)] → W p l e (ea_rm 3 74) s m args below meth cd H locs 0 0 (MQ below (ea_Qv E ids res) args s 0 0 (ea_Ad E ids)) (F0 m 134 ls []) := by
  intro x2 q4 x5 x6 x7 M H locs ls hf hq4 hw hl
  replace hf := (fX3_find_134.eq_1 ..).symm.trans hf
  refine lv_iinc (v := x7 + (1 : Int32)) (lv' := [(7, .int (x7 + (1 : Int32))), (0, .ref (E.1 a0)), (2, .int x2), (4, .ref (E.1 q4)), (5, .int x5), (6, .int x6)]) C.1 C.2.1 dX3_find_134 hl (k := 5) rfl rfl (by decide) rfl (fun ls hl => ?_)
  refine lv_goto (tgt := 56) C.1 C.2.1 dX3_find_137 (by decide) ?_
  exact hk56 _ _ _ _ _ _ _ _ _ hf hq4 hw (lv_sub hl [1, 2, 3, 4, 5, 0] rfl)
set_option maxHeartbeats 4000000 in
set_option maxRecDepth 20000 in
theorem wX3_find_56 (C : ea_C p s m args meth cd cX3_find 10 none RX3) (hX : ea_X ids) (ho0 : ea_ok ids a0 3) {k140 : eM → Option (eM)} (hk140 : ∀  (M : eM) (H : Heap) (locs : List Loc) (ls : Array Slot), k140 M = some res → ea_w E ids M s H locs → lv_has ls 10 [(0, .ref (E.1 a0))] → W p l e (ea_rm 3 74) s m args below meth cd H locs 0 0 (MQ below (ea_Qv E ids res) args s 0 0 (ea_Ad E ids)) (F0 m 140 ls [])) : ∀ (n : Nat) (x2 : Int32) (q4 : Nat) (x5 : Int32) (x6 : Int32) (x7 : Int32) (M : eM) (H : Heap) (locs : List Loc) (ls : Array Slot), fX3_find_56 k140 a0 n x2 q4 x5 x6 x7 M = some res → ea_ok ids q4 1 → ea_w E ids M s H locs → lv_has ls 10 [(0, .ref (E.1 a0)), (2, .int x2), (4, .ref (E.1 q4)), (5, .int x5), (6, .int x6), (7, .int x7)] → W p l e (ea_rm 3 74) s m args below meth cd H locs 0 0 (MQ below (ea_Qv E ids res) args s 0 0 (ea_Ad E ids)) (F0 m 56 ls []) := by
  intro n
  induction n with
  | zero => intro x2 q4 x5 x6 x7 M H locs ls hf; cases hf
  | succ n ih =>
    intro x2 q4 x5 x6 x7 M H locs ls hf hq4 hw hl
    replace hf := (fX3_find_56.eq_2 ..).symm.trans hf
    refine lv_iload C.1 C.2.1 dX3_find_56 (lv_at hl 5 rfl) ?_
    refine lv_iload C.1 C.2.1 dX3_find_58 (lv_at hl 4 rfl) ?_
    refine lv_icmp_ge (tgt := 140) C.1 C.2.1 dX3_find_60 (by decide) (fun hc1 => ?_) (fun hc1 => ?_)
    · replace hf := ea_if_t hc1 hf
      exact hk140 _ _ _ _ hf hw (lv_sub hl [0] rfl)
    · replace hf := ea_if_f hc1 hf
      refine lv_aload C.1 C.2.1 dX3_find_63 (lv_at hl 2 rfl) ?_
      refine lv_iload C.1 C.2.1 dX3_find_65 (lv_at hl 5 rfl) ?_
      obtain ⟨r3, M4, he2, hf⟩ := ea_ci_s hf
      refine ea_runi2 hw (cl_X3_81 C hw hq4 (As := [.int x7]) (rest := []) (mX1_yearFrom (l := l) (E := E) (ids := ids) hX hq4 he2) (by decide) rfl hl.1 rfl (Nat.le_of_ble_eq_true rfl) dX3_find_67 ⟨Nat.le_refl _, Nat.le_refl _⟩) (fun H locs hw => ?_)
      refine lv_istore (lv' := [(8, .int r3), (0, .ref (E.1 a0)), (2, .int x2), (4, .ref (E.1 q4)), (5, .int x5), (6, .int x6), (7, .int x7)]) C.1 C.2.1 dX3_find_70 hl (by decide) rfl (fun ls hl => ?_)
      refine lv_iconst (v := 0) C.1 C.2.1 dX3_find_72 (by decide) ?_
      refine lv_istore (lv' := [(9, .int (0 : Int32)), (8, .int r3), (0, .ref (E.1 a0)), (2, .int x2), (4, .ref (E.1 q4)), (5, .int x5), (6, .int x6), (7, .int x7)]) C.1 C.2.1 dX3_find_73 hl (by decide) rfl (fun ls hl => ?_)
      exact wX3_find_75 C hX ho0 (wX3_find_134 C hX ho0 ih) ea_N _ _ _ _ _ _ _ _ _ _ _ hf hq4 hw (lv_sub hl [2, 3, 4, 5, 6, 7, 1, 0] rfl)
set_option maxHeartbeats 4000000 in
set_option maxRecDepth 20000 in
theorem wX3_find_140 (C : ea_C p s m args meth cd cX3_find 10 none RX3) (hX : ea_X ids) (ho0 : ea_ok ids a0 3) : ∀  (M : eM) (H : Heap) (locs : List Loc) (ls : Array Slot), fX3_find_140 a0 M = some res → ea_w E ids M s H locs → lv_has ls 10 [(0, .ref (E.1 a0))] → W p l e (ea_rm 3 74) s m args below meth cd H locs 0 0 (MQ below (ea_Qv E ids res) args s 0 0 (ea_Ad E ids)) (F0 m 140 ls []) := by
  intro M H locs ls hf  hw hl
  replace hf := (fX3_find_140.eq_1 ..).symm.trans hf
  refine lv_aload_n C.1 C.2.1 dX3_find_140 rfl (lv_at hl 0 rfl) ?_
  obtain ⟨M2, he1, hf⟩ := ea_cv_s hf
  refine ea_runv hw (cl_X3_98 C hw ho0 (As := []) (rest := []) (mX3_sumUp (l := l) (E := E) (ids := ids) hX ho0 he1) (by decide) rfl hl.1 rfl (Nat.le_of_ble_eq_true rfl) dX3_find_141 ⟨Nat.le_refl _, Nat.le_refl _⟩) (fun H locs hw => ?_)
  exact ea_vret C hw hf dX3_find_144
set_option maxHeartbeats 4000000 in
set_option maxRecDepth 20000 in
theorem wX3_find_0 (C : ea_C p s m args meth cd cX3_find 10 none RX3) (hX : ea_X ids) (ho0 : ea_ok ids a0 3) : ∀ (x1 : Int32) (x2 : Int32) (x3 : Int32) (M : eM) (H : Heap) (locs : List Loc) (ls : Array Slot), fX3_find_0 a0 x1 x2 x3 M = some res → ea_w E ids M s H locs → lv_has ls 10 [(0, .ref (E.1 a0)), (1, .int x1), (2, .int x2), (3, .int x3)] → W p l e (ea_rm 3 74) s m args below meth cd H locs 0 0 (MQ below (ea_Qv E ids res) args s 0 0 (ea_Ad E ids)) (F0 m 0 ls []) := by
  intro x1 x2 x3 M H locs ls hf  hw hl
  replace hf := (fX3_find_0.eq_1 ..).symm.trans hf
  refine lv_aload_n C.1 C.2.1 dX3_find_0 rfl (lv_at hl 0 rfl) ?_
  refine gf_X3_37 C hw ho0 dX3_find_1 ?_
  refine gf_X3_54 C hw (hX 4 9 rfl) dX3_find_4 ?_
  obtain ⟨hc1, hf⟩ := ea_ck_s hf
  obtain ⟨y2, ey3, hf⟩ := ea_lt_s hf
  refine ea_topr ey3 ?_
  have ho_y2 : ea_ok ids y2 1 := by rw [← ey3]; exact (ea_dyn hX hc1)
  refine lv_astore (lv' := [(4, .ref (E.1 y2)), (0, .ref (E.1 a0)), (1, .int x1), (2, .int x2), (3, .int x3)]) C.1 C.2.1 dX3_find_7 hl (by decide) rfl (fun ls hl => ?_)
  refine lv_aload C.1 C.2.1 dX3_find_9 (lv_at hl 0 rfl) ?_
  refine lv_iload_n C.1 C.2.1 dX3_find_11 rfl (lv_at hl 2 rfl) ?_
  obtain ⟨r5, M6, he4, hf⟩ := ea_ci_s hf
  refine ea_runi2 hw (cl_X3_58 C hw ho_y2 (As := [.int x1]) (rest := []) (mX1_columnOf (l := l) (E := E) (ids := ids) hX ho_y2 he4) (by decide) rfl hl.1 rfl (Nat.le_of_ble_eq_true rfl) dX3_find_12 ⟨Nat.le_refl _, Nat.le_refl _⟩) (fun H locs hw => ?_)
  refine lv_istore (lv' := [(5, .int r5), (4, .ref (E.1 y2)), (0, .ref (E.1 a0)), (1, .int x1), (2, .int x2), (3, .int x3)]) C.1 C.2.1 dX3_find_15 hl (by decide) rfl (fun ls hl => ?_)
  refine lv_aload C.1 C.2.1 dX3_find_17 (lv_at hl 1 rfl) ?_
  refine gf_X3_64 C hw ho_y2 dX3_find_19 ?_
  refine lv_iconst (v := 1) C.1 C.2.1 dX3_find_22 (by decide) ?_
  refine lv_iadd C.1 C.2.1 dX3_find_23 ?_
  obtain ⟨y7, ey8, hf⟩ := ea_lt_s hf
  refine ea_topi ey8 ?_
  refine lv_istore (lv' := [(6, .int y7), (5, .int r5), (4, .ref (E.1 y2)), (0, .ref (E.1 a0)), (1, .int x1), (2, .int x2), (3, .int x3)]) C.1 C.2.1 dX3_find_24 hl (by decide) rfl (fun ls hl => ?_)
  refine lv_aload_n C.1 C.2.1 dX3_find_26 rfl (lv_at hl 3 rfl) ?_
  refine lv_iload_n C.1 C.2.1 dX3_find_27 rfl (lv_at hl 4 rfl) ?_
  refine lv_iload_n C.1 C.2.1 dX3_find_28 rfl (lv_at hl 6 rfl) ?_
  obtain ⟨M10, he9, hf⟩ := ea_cv_s hf
  refine ea_runv hw (cl_X3_68 C hw ho0 (As := [.int x1, .int x3]) (rest := []) (mX3_gather (l := l) (E := E) (ids := ids) hX ho0 he9) (by decide) rfl hl.1 rfl (Nat.le_of_ble_eq_true rfl) dX3_find_29 ⟨Nat.le_refl _, Nat.le_refl _⟩) (fun H locs hw => ?_)
  refine lv_aload_n C.1 C.2.1 dX3_find_32 rfl (lv_at hl 3 rfl) ?_
  refine gf_X3_13 C hw ho0 dX3_find_33 ?_
  refine lv_iconst (v := 0) C.1 C.2.1 dX3_find_36 (by decide) ?_
  refine lv_aload_n C.1 C.2.1 dX3_find_37 rfl (lv_at hl 3 rfl) ?_
  refine gf_X3_37 C hw ho0 dX3_find_38 ?_
  refine gf_X3_72 C hw (hX 4 9 rfl) dX3_find_41 ?_
  refine lv_iconst (v := 1) C.1 C.2.1 dX3_find_44 (by decide) ?_
  refine lv_iload C.1 C.2.1 dX3_find_45 (lv_at hl 0 rfl) ?_
  refine lv_ishl C.1 C.2.1 dX3_find_47 ?_
  refine lv_iconst (v := 1) C.1 C.2.1 dX3_find_48 (by decide) ?_
  refine lv_isub C.1 C.2.1 dX3_find_49 ?_
  obtain ⟨M12, he11, hf⟩ := ea_cv_s hf
  refine ea_runv hw (cl_X3_75 C hw (As := [.ref (E.1 (a0 + 3)), .int (0 : Int32), .int (M10.1 4 1), .int (((1 : Int32) <<< (y7 &&& 31)) - (1 : Int32))]) (rest := []) (mJ7_fill_fda19 (l := l) (E := E) (ids := ids) (ok_3_3 ho0) he11) (by decide) rfl hl.1 rfl (Nat.le_of_ble_eq_true rfl) dX3_find_50 ⟨Nat.le_refl _, Nat.le_refl _⟩) (fun H locs hw => ?_)
  refine lv_iconst (v := 0) C.1 C.2.1 dX3_find_53 (by decide) ?_
  refine lv_istore (lv' := [(7, .int (0 : Int32)), (6, .int y7), (5, .int r5), (4, .ref (E.1 y2)), (0, .ref (E.1 a0)), (1, .int x1), (2, .int x2), (3, .int x3)]) C.1 C.2.1 dX3_find_54 hl (by decide) rfl (fun ls hl => ?_)
  exact wX3_find_56 C hX ho0 (wX3_find_140 C hX ho0) ea_N _ _ _ _ _ _ _ _ _ hf ho_y2 hw (lv_sub hl [4, 6, 3, 2, 1, 0] rfl)
set_option maxHeartbeats 4000000 in
set_option maxRecDepth 20000 in
theorem mX3_find {l : Launch} {E : eE} {ids : List Nat} (hX : ea_X ids) {a0 : Nat} {x1 : Int32} {x2 : Int32} {x3 : Int32} (ho0 : ea_ok ids a0 3) {M : eM} {res : eM} (hf : fX3_find a0 x1 x2 x3 M = some res) : ea_Mv l yX3_find cX3_find 10 3 74 E ids [.ref (E.1 a0), .int x1, .int x2, .int x3] M res := by
  refine ea_gov (by decide) (Nat.le_of_ble_eq_true rfl) wc_X3_find ?_
  intro p e s m below meth cd ls C hw hl
  exact wX3_find_0 C hX ho0 _ _ _ _ _ _ _ hf hw hl
end SX3_find

def fX3_pairPart_79 (k20 : Int32 → Int32 → Int32 → Int32 → eM → Option (Int32 × eM)) (a0 : Nat) (x2 : Int32) (x3 : Int32) (x4 : Int32) (x5 : Int32) (M : eM) : Option (Int32 × eM) := k20 x2 x3 x4 (x5 + (1 : Int32)) M
def fX3_pairPart_20 (k54 : Int32 → Int32 → Int32 → eM → Option (Int32 × eM)) (k85 : Int32 → Int32 → Int32 → eM → Option (Int32 × eM)) (a0 : Nat) : Nat → Int32 → Int32 → Int32 → Int32 → eM → Option (Int32 × eM)
  | 0, _, _, _, _, _ => none
  | n + 1, x2, x3, x4, x5, M => ea_ck (ea_is (M.2.2 4 0) 1) (if (M.1 (M.2.2 4 0) 6) < x5 then (k85 x2 x3 x4 M) else (ea_ck (ea_ix x4 (ea_len (a0 + 3))) (if (((M.1 (a0 + 3) x4.toNatClampNeg) >>> (x5 &&& 31)) &&& (1 : Int32)) = 0 then (fX3_pairPart_79 (fX3_pairPart_20 k54 k85 a0 n) a0 x2 x3 x4 x5 M) else (if x3 = 0 then (k54 x2 x4 x5 M) else (fX3_pairPart_79 (fX3_pairPart_20 k54 k85 a0 n) a0 x2 (x3 + (-1 : Int32)) x4 x5 M)))))
def fX3_pairPart_85 (k5 : Int32 → Int32 → Int32 → eM → Option (Int32 × eM)) (a0 : Nat) (x2 : Int32) (x3 : Int32) (x4 : Int32) (M : eM) : Option (Int32 × eM) := k5 x2 x3 (x4 + (1 : Int32)) M
def fX3_pairPart_5 (k54 : Int32 → Int32 → Int32 → eM → Option (Int32 × eM)) (a0 : Nat) : Nat → Int32 → Int32 → Int32 → eM → Option (Int32 × eM)
  | 0, _, _, _, _ => none
  | n + 1, x2, x3, x4, M => if (M.1 4 1) ≤ x4 then (some ((-1 : Int32), M)) else (fX3_pairPart_20 k54 (fX3_pairPart_85 (fX3_pairPart_5 k54 a0 n) a0) a0 ea_N x2 x3 x4 (0 : Int32) M)
def fX3_pairPart_54 (a0 : Nat) (x2 : Int32) (x4 : Int32) (x5 : Int32) (M : eM) : Option (Int32 × eM) := if x2 = 0 then (ea_ck (ea_is (M.2.2 4 0) 1) (ea_ci (fX1_yearFrom (M.2.2 4 0) x5 M) (fun r4 M5 => some (r4, M5)))) else (some (x4, M))
def fX3_pairPart_0 (a0 : Nat) (x1 : Int32) (x2 : Int32) (M : eM) : Option (Int32 × eM) := fX3_pairPart_5 (fX3_pairPart_54 a0) a0 ea_N x2 x1 (0 : Int32) M
def fX3_pairPart (a0 : Nat) (x1 : Int32) (x2 : Int32) (M : eM) : Option (Int32 × eM) := fX3_pairPart_0 a0 x1 x2 M
section SX3_pairPart
variable {p : Program} {l : Launch} {e : Env} {s : State} {m : MethodId} {args : Array Value} {below : List Frame} {meth : Method} {cd : Code} {E : eE} {ids : List Nat} {res : Int32 × eM} {a0 : Nat}
set_option maxHeartbeats 4000000 in
set_option maxRecDepth 20000 in
theorem wX3_pairPart_79 (C : ea_C p s m args meth cd cX3_pairPart 6 (some .int) RX3) (hX : ea_X ids) (ho0 : ea_ok ids a0 3) {k20 : Int32 → Int32 → Int32 → Int32 → eM → Option (Int32 × eM)} (hk20 : ∀ (x2 : Int32) (x3 : Int32) (x4 : Int32) (x5 : Int32) (M : eM) (H : Heap) (locs : List Loc) (ls : Array Slot), k20 x2 x3 x4 x5 M = some res → ea_w E ids M s H locs → lv_has ls 6 [(0, .ref (E.1 a0)), (2, .int x2), (3, .int x3), (4, .int x4), (5, .int x5)] → W p l e (ea_rm 2 43) s m args below meth cd H locs 0 0 (MQ below (ea_Qi E ids res) args s 0 0 (ea_Ad E ids)) (F0 m 20 ls [])) : ∀ (x2 : Int32) (x3 : Int32) (x4 : Int32) (x5 : Int32) (M : eM) (H : Heap) (locs : List Loc) (ls : Array Slot), fX3_pairPart_79 k20 a0 x2 x3 x4 x5 M = some res → ea_w E ids M s H locs → lv_has ls 6 [(0, .ref (E.1 a0)), (2, .int x2), (3, .int x3), (4, .int x4), (5, .int x5)] → W p l e (ea_rm 2 43) s m args below meth cd H locs 0 0 (MQ below (ea_Qi E ids res) args s 0 0 (ea_Ad E ids)) (F0 m 79 ls []) := by
  intro x2 x3 x4 x5 M H locs ls hf  hw hl
  replace hf := (fX3_pairPart_79.eq_1 ..).symm.trans hf
  refine lv_iinc (v := x5 + (1 : Int32)) (lv' := [(5, .int (x5 + (1 : Int32))), (0, .ref (E.1 a0)), (2, .int x2), (3, .int x3), (4, .int x4)]) C.1 C.2.1 dX3_pairPart_79 hl (k := 4) rfl rfl (by decide) rfl (fun ls hl => ?_)
  refine lv_goto (tgt := 20) C.1 C.2.1 dX3_pairPart_82 (by decide) ?_
  exact hk20 _ _ _ _ _ _ _ _ hf hw (lv_sub hl [1, 2, 3, 4, 0] rfl)
set_option maxHeartbeats 4000000 in
set_option maxRecDepth 20000 in
theorem wX3_pairPart_20 (C : ea_C p s m args meth cd cX3_pairPart 6 (some .int) RX3) (hX : ea_X ids) (ho0 : ea_ok ids a0 3) {k54 : Int32 → Int32 → Int32 → eM → Option (Int32 × eM)} (hk54 : ∀ (x2 : Int32) (x4 : Int32) (x5 : Int32) (M : eM) (H : Heap) (locs : List Loc) (ls : Array Slot), k54 x2 x4 x5 M = some res → ea_w E ids M s H locs → lv_has ls 6 [(0, .ref (E.1 a0)), (2, .int x2), (4, .int x4), (5, .int x5)] → W p l e (ea_rm 2 43) s m args below meth cd H locs 0 0 (MQ below (ea_Qi E ids res) args s 0 0 (ea_Ad E ids)) (F0 m 54 ls [])) {k85 : Int32 → Int32 → Int32 → eM → Option (Int32 × eM)} (hk85 : ∀ (x2 : Int32) (x3 : Int32) (x4 : Int32) (M : eM) (H : Heap) (locs : List Loc) (ls : Array Slot), k85 x2 x3 x4 M = some res → ea_w E ids M s H locs → lv_has ls 6 [(0, .ref (E.1 a0)), (2, .int x2), (3, .int x3), (4, .int x4)] → W p l e (ea_rm 2 43) s m args below meth cd H locs 0 0 (MQ below (ea_Qi E ids res) args s 0 0 (ea_Ad E ids)) (F0 m 85 ls [])) : ∀ (n : Nat) (x2 : Int32) (x3 : Int32) (x4 : Int32) (x5 : Int32) (M : eM) (H : Heap) (locs : List Loc) (ls : Array Slot), fX3_pairPart_20 k54 k85 a0 n x2 x3 x4 x5 M = some res → ea_w E ids M s H locs → lv_has ls 6 [(0, .ref (E.1 a0)), (2, .int x2), (3, .int x3), (4, .int x4), (5, .int x5)] → W p l e (ea_rm 2 43) s m args below meth cd H locs 0 0 (MQ below (ea_Qi E ids res) args s 0 0 (ea_Ad E ids)) (F0 m 20 ls []) := by
  intro n
  induction n with
  | zero => intro x2 x3 x4 x5 M H locs ls hf; cases hf
  | succ n ih =>
    intro x2 x3 x4 x5 M H locs ls hf  hw hl
    replace hf := (fX3_pairPart_20.eq_2 ..).symm.trans hf
    refine lv_iload C.1 C.2.1 dX3_pairPart_20 (lv_at hl 4 rfl) ?_
    refine lv_aload_n C.1 C.2.1 dX3_pairPart_22 rfl (lv_at hl 0 rfl) ?_
    refine gf_X3_37 C hw ho0 dX3_pairPart_23 ?_
    refine gf_X3_54 C hw (hX 4 9 rfl) dX3_pairPart_26 ?_
    obtain ⟨hc1, hf⟩ := ea_ck_s hf
    refine gf_X3_64 C hw (ea_dyn hX hc1) dX3_pairPart_29 ?_
    refine lv_icmp_gt (tgt := 85) C.1 C.2.1 dX3_pairPart_32 (by decide) (fun hc2 => ?_) (fun hc2 => ?_)
    · replace hf := ea_if_t hc2 hf
      exact hk85 _ _ _ _ _ _ _ hf hw (lv_sub hl [0, 1, 2, 3] rfl)
    · replace hf := ea_if_f hc2 hf
      refine lv_aload_n C.1 C.2.1 dX3_pairPart_35 rfl (lv_at hl 0 rfl) ?_
      refine gf_X3_13 C hw ho0 dX3_pairPart_36 ?_
      refine lv_iload C.1 C.2.1 dX3_pairPart_39 (lv_at hl 3 rfl) ?_
      obtain ⟨hc3, hf⟩ := ea_ck_s hf
      refine ea_iald C hw (ok_3_3 ho0) hc3 dX3_pairPart_41 ?_
      refine lv_iload C.1 C.2.1 dX3_pairPart_42 (lv_at hl 4 rfl) ?_
      refine lv_ishr C.1 C.2.1 dX3_pairPart_44 ?_
      refine lv_iconst (v := 1) C.1 C.2.1 dX3_pairPart_45 (by decide) ?_
      refine lv_iand C.1 C.2.1 dX3_pairPart_46 ?_
      refine lv_if_eq (tgt := 79) C.1 C.2.1 dX3_pairPart_47 (by decide) (fun hc4 => ?_) (fun hc4 => ?_)
      · replace hf := ea_if_t hc4 hf
        exact wX3_pairPart_79 C hX ho0 ih _ _ _ _ _ _ _ _ hf hw (lv_sub hl [0, 1, 2, 3, 4] rfl)
      · replace hf := ea_if_f hc4 hf
        refine lv_iload_n C.1 C.2.1 dX3_pairPart_50 rfl (lv_at hl 2 rfl) ?_
        refine lv_if_ne (tgt := 76) C.1 C.2.1 dX3_pairPart_51 (by decide) (fun hc5 => ?_) (fun hc5 => ?_)
        · replace hf := ea_if_f hc5 hf
          refine lv_iinc (v := x3 + (-1 : Int32)) (lv' := [(3, .int (x3 + (-1 : Int32))), (0, .ref (E.1 a0)), (2, .int x2), (4, .int x4), (5, .int x5)]) C.1 C.2.1 dX3_pairPart_76 hl (k := 2) rfl rfl (by decide) rfl (fun ls hl => ?_)
          exact wX3_pairPart_79 C hX ho0 ih _ _ _ _ _ _ _ _ hf hw (lv_sub hl [1, 2, 0, 3, 4] rfl)
        · replace hf := ea_if_t hc5 hf
          exact hk54 _ _ _ _ _ _ _ hf hw (lv_sub hl [0, 1, 3, 4] rfl)
set_option maxHeartbeats 4000000 in
set_option maxRecDepth 20000 in
theorem wX3_pairPart_85 (C : ea_C p s m args meth cd cX3_pairPart 6 (some .int) RX3) (hX : ea_X ids) (ho0 : ea_ok ids a0 3) {k5 : Int32 → Int32 → Int32 → eM → Option (Int32 × eM)} (hk5 : ∀ (x2 : Int32) (x3 : Int32) (x4 : Int32) (M : eM) (H : Heap) (locs : List Loc) (ls : Array Slot), k5 x2 x3 x4 M = some res → ea_w E ids M s H locs → lv_has ls 6 [(0, .ref (E.1 a0)), (2, .int x2), (3, .int x3), (4, .int x4)] → W p l e (ea_rm 2 43) s m args below meth cd H locs 0 0 (MQ below (ea_Qi E ids res) args s 0 0 (ea_Ad E ids)) (F0 m 5 ls [])) : ∀ (x2 : Int32) (x3 : Int32) (x4 : Int32) (M : eM) (H : Heap) (locs : List Loc) (ls : Array Slot), fX3_pairPart_85 k5 a0 x2 x3 x4 M = some res → ea_w E ids M s H locs → lv_has ls 6 [(0, .ref (E.1 a0)), (2, .int x2), (3, .int x3), (4, .int x4)] → W p l e (ea_rm 2 43) s m args below meth cd H locs 0 0 (MQ below (ea_Qi E ids res) args s 0 0 (ea_Ad E ids)) (F0 m 85 ls []) := by
  intro x2 x3 x4 M H locs ls hf  hw hl
  replace hf := (fX3_pairPart_85.eq_1 ..).symm.trans hf
  refine lv_iinc (v := x4 + (1 : Int32)) (lv' := [(4, .int (x4 + (1 : Int32))), (0, .ref (E.1 a0)), (2, .int x2), (3, .int x3)]) C.1 C.2.1 dX3_pairPart_85 hl (k := 3) rfl rfl (by decide) rfl (fun ls hl => ?_)
  refine lv_goto (tgt := 5) C.1 C.2.1 dX3_pairPart_88 (by decide) ?_
  exact hk5 _ _ _ _ _ _ _ hf hw (lv_sub hl [1, 2, 3, 0] rfl)
set_option maxHeartbeats 4000000 in
set_option maxRecDepth 20000 in
theorem wX3_pairPart_5 (C : ea_C p s m args meth cd cX3_pairPart 6 (some .int) RX3) (hX : ea_X ids) (ho0 : ea_ok ids a0 3) {k54 : Int32 → Int32 → Int32 → eM → Option (Int32 × eM)} (hk54 : ∀ (x2 : Int32) (x4 : Int32) (x5 : Int32) (M : eM) (H : Heap) (locs : List Loc) (ls : Array Slot), k54 x2 x4 x5 M = some res → ea_w E ids M s H locs → lv_has ls 6 [(0, .ref (E.1 a0)), (2, .int x2), (4, .int x4), (5, .int x5)] → W p l e (ea_rm 2 43) s m args below meth cd H locs 0 0 (MQ below (ea_Qi E ids res) args s 0 0 (ea_Ad E ids)) (F0 m 54 ls [])) : ∀ (n : Nat) (x2 : Int32) (x3 : Int32) (x4 : Int32) (M : eM) (H : Heap) (locs : List Loc) (ls : Array Slot), fX3_pairPart_5 k54 a0 n x2 x3 x4 M = some res → ea_w E ids M s H locs → lv_has ls 6 [(0, .ref (E.1 a0)), (2, .int x2), (3, .int x3), (4, .int x4)] → W p l e (ea_rm 2 43) s m args below meth cd H locs 0 0 (MQ below (ea_Qi E ids res) args s 0 0 (ea_Ad E ids)) (F0 m 5 ls []) := by
  intro n
  induction n with
  | zero => intro x2 x3 x4 M H locs ls hf; cases hf
  | succ n ih =>
    intro x2 x3 x4 M H locs ls hf  hw hl
    replace hf := (fX3_pairPart_5.eq_2 ..).symm.trans hf
    refine lv_iload C.1 C.2.1 dX3_pairPart_5 (lv_at hl 3 rfl) ?_
    refine lv_aload_n C.1 C.2.1 dX3_pairPart_7 rfl (lv_at hl 0 rfl) ?_
    refine gf_X3_37 C hw ho0 dX3_pairPart_8 ?_
    refine gf_X3_72 C hw (hX 4 9 rfl) dX3_pairPart_11 ?_
    refine lv_icmp_ge (tgt := 91) C.1 C.2.1 dX3_pairPart_14 (by decide) (fun hc1 => ?_) (fun hc1 => ?_)
    · replace hf := ea_if_t hc1 hf
      refine lv_iconst (v := (-1 : Int32)) C.1 C.2.1 dX3_pairPart_91 (by decide) ?_
      exact ea_iret C hw hf dX3_pairPart_92
    · replace hf := ea_if_f hc1 hf
      refine lv_iconst (v := 0) C.1 C.2.1 dX3_pairPart_17 (by decide) ?_
      refine lv_istore (lv' := [(5, .int (0 : Int32)), (0, .ref (E.1 a0)), (2, .int x2), (3, .int x3), (4, .int x4)]) C.1 C.2.1 dX3_pairPart_18 hl (by decide) rfl (fun ls hl => ?_)
      exact wX3_pairPart_20 C hX ho0 hk54 (wX3_pairPart_85 C hX ho0 ih) ea_N _ _ _ _ _ _ _ _ hf hw (lv_sub hl [1, 2, 3, 4, 0] rfl)
set_option maxHeartbeats 4000000 in
set_option maxRecDepth 20000 in
theorem wX3_pairPart_54 (C : ea_C p s m args meth cd cX3_pairPart 6 (some .int) RX3) (hX : ea_X ids) (ho0 : ea_ok ids a0 3) : ∀ (x2 : Int32) (x4 : Int32) (x5 : Int32) (M : eM) (H : Heap) (locs : List Loc) (ls : Array Slot), fX3_pairPart_54 a0 x2 x4 x5 M = some res → ea_w E ids M s H locs → lv_has ls 6 [(0, .ref (E.1 a0)), (2, .int x2), (4, .int x4), (5, .int x5)] → W p l e (ea_rm 2 43) s m args below meth cd H locs 0 0 (MQ below (ea_Qi E ids res) args s 0 0 (ea_Ad E ids)) (F0 m 54 ls []) := by
  intro x2 x4 x5 M H locs ls hf  hw hl
  replace hf := (fX3_pairPart_54.eq_1 ..).symm.trans hf
  refine lv_iload_n C.1 C.2.1 dX3_pairPart_54 rfl (lv_at hl 1 rfl) ?_
  refine lv_if_eq (tgt := 63) C.1 C.2.1 dX3_pairPart_55 (by decide) (fun hc1 => ?_) (fun hc1 => ?_)
  · replace hf := ea_if_t hc1 hf
    refine lv_aload_n C.1 C.2.1 dX3_pairPart_63 rfl (lv_at hl 0 rfl) ?_
    refine gf_X3_37 C hw ho0 dX3_pairPart_64 ?_
    refine gf_X3_54 C hw (hX 4 9 rfl) dX3_pairPart_67 ?_
    obtain ⟨hc2, hf⟩ := ea_ck_s hf
    refine lv_iload C.1 C.2.1 dX3_pairPart_70 (lv_at hl 3 rfl) ?_
    obtain ⟨r4, M5, he3, hf⟩ := ea_ci_s hf
    refine ea_runi2 hw (cl_X3_81 C hw (ea_dyn hX hc2) (As := [.int x5]) (rest := []) (mX1_yearFrom (l := l) (E := E) (ids := ids) hX (ea_dyn hX hc2) he3) (by decide) rfl hl.1 rfl (Nat.le_of_ble_eq_true rfl) dX3_pairPart_72 ⟨Nat.le_refl _, Nat.le_refl _⟩) (fun H locs hw => ?_)
    exact ea_iret C hw hf dX3_pairPart_75
  · replace hf := ea_if_f hc1 hf
    refine lv_iload C.1 C.2.1 dX3_pairPart_58 (lv_at hl 2 rfl) ?_
    refine lv_goto (tgt := 75) C.1 C.2.1 dX3_pairPart_60 (by decide) ?_
    exact ea_iret C hw hf dX3_pairPart_75
set_option maxHeartbeats 4000000 in
set_option maxRecDepth 20000 in
theorem wX3_pairPart_0 (C : ea_C p s m args meth cd cX3_pairPart 6 (some .int) RX3) (hX : ea_X ids) (ho0 : ea_ok ids a0 3) : ∀ (x1 : Int32) (x2 : Int32) (M : eM) (H : Heap) (locs : List Loc) (ls : Array Slot), fX3_pairPart_0 a0 x1 x2 M = some res → ea_w E ids M s H locs → lv_has ls 6 [(0, .ref (E.1 a0)), (1, .int x1), (2, .int x2)] → W p l e (ea_rm 2 43) s m args below meth cd H locs 0 0 (MQ below (ea_Qi E ids res) args s 0 0 (ea_Ad E ids)) (F0 m 0 ls []) := by
  intro x1 x2 M H locs ls hf  hw hl
  replace hf := (fX3_pairPart_0.eq_1 ..).symm.trans hf
  refine lv_iload_n C.1 C.2.1 dX3_pairPart_0 rfl (lv_at hl 1 rfl) ?_
  refine lv_istore_n (lv' := [(3, .int x1), (0, .ref (E.1 a0)), (1, .int x1), (2, .int x2)]) C.1 C.2.1 dX3_pairPart_1 rfl hl (by decide) rfl (fun ls hl => ?_)
  refine lv_iconst (v := 0) C.1 C.2.1 dX3_pairPart_2 (by decide) ?_
  refine lv_istore (lv' := [(4, .int (0 : Int32)), (3, .int x1), (0, .ref (E.1 a0)), (1, .int x1), (2, .int x2)]) C.1 C.2.1 dX3_pairPart_3 hl (by decide) rfl (fun ls hl => ?_)
  exact wX3_pairPart_5 C hX ho0 (wX3_pairPart_54 C hX ho0) ea_N _ _ _ _ _ _ _ hf hw (lv_sub hl [2, 4, 1, 0] rfl)
set_option maxHeartbeats 4000000 in
set_option maxRecDepth 20000 in
theorem mX3_pairPart {l : Launch} {E : eE} {ids : List Nat} (hX : ea_X ids) {a0 : Nat} {x1 : Int32} {x2 : Int32} (ho0 : ea_ok ids a0 3) {M : eM} {res : Int32 × eM} (hf : fX3_pairPart a0 x1 x2 M = some res) : ea_Mi l yX3_pairPart cX3_pairPart 6 (some .int) 2 43 E ids [.ref (E.1 a0), .int x1, .int x2] M res := by
  refine ea_goi (by decide) (Nat.le_of_ble_eq_true rfl) wc_X3_pairPart ?_
  intro p e s m below meth cd ls C hw hl
  exact wX3_pairPart_0 C hX ho0 _ _ _ _ _ _ hf hw hl
end SX3_pairPart

def fX8_isBlank_32 (a0 : Nat) : Nat → Int32 → Int32 → Int32 → eM → Option (Int32 × eM)
  | 0, _, _, _, _ => none
  | n + 1, x1, x2, x3, M => if (M.1 a0 4) ≤ x3 then (some ((1 : Int32), M)) else (ea_ci (fX8_isTriedOf a0 x3 x1 x2 M) (fun r3 M4 => if r3 = 0 then (fX8_isBlank_32 a0 n x1 x2 (x3 + (1 : Int32)) M4) else (some ((0 : Int32), M4))))
def fX8_isBlank_0 (a0 : Nat) (x1 : Int32) (x2 : Int32) (M : eM) : Option (Int32 × eM) := ea_ci (fX8_latestLook a0 x1 (0 : Int32) x2 M) (fun r2 M3 => ea_ci (fX8_isSeen a0 r2 M3) (fun r5 M6 => if r5 = 0 then (ea_ci (fX8_latestLook a0 x1 (1 : Int32) x2 M6) (fun r9 M10 => ea_ci (fX8_isSeen a0 r9 M10) (fun r12 M13 => if r12 = 0 then (fX8_isBlank_32 a0 ea_N x1 x2 (0 : Int32) M13) else (some ((0 : Int32), M13))))) else (some ((0 : Int32), M6))))
def fX8_isBlank (a0 : Nat) (x1 : Int32) (x2 : Int32) (M : eM) : Option (Int32 × eM) := fX8_isBlank_0 a0 x1 x2 M
section SX8_isBlank
variable {p : Program} {l : Launch} {e : Env} {s : State} {m : MethodId} {args : Array Value} {below : List Frame} {meth : Method} {cd : Code} {E : eE} {ids : List Nat} {res : Int32 × eM} {a0 : Nat}
set_option maxHeartbeats 4000000 in
set_option maxRecDepth 20000 in
theorem wX8_isBlank_32 (C : ea_C p s m args meth cd cX8_isBlank 4 (some .boolean) RX8) (hX : ea_X ids) (ho0 : ea_ok ids a0 8) : ∀ (n : Nat) (x1 : Int32) (x2 : Int32) (x3 : Int32) (M : eM) (H : Heap) (locs : List Loc) (ls : Array Slot), fX8_isBlank_32 a0 n x1 x2 x3 M = some res → ea_w E ids M s H locs → lv_has ls 4 [(0, .ref (E.1 a0)), (1, .int x1), (2, .int x2), (3, .int x3)] → W p l e (ea_rm 2 43) s m args below meth cd H locs 0 0 (MQ below (ea_Qi E ids res) args s 0 0 (ea_Ad E ids)) (F0 m 32 ls []) := by
  intro n
  induction n with
  | zero => intro x1 x2 x3 M H locs ls hf; cases hf
  | succ n ih =>
    intro x1 x2 x3 M H locs ls hf  hw hl
    replace hf := (fX8_isBlank_32.eq_2 ..).symm.trans hf
    refine lv_iload_n C.1 C.2.1 dX8_isBlank_32 rfl (lv_at hl 3 rfl) ?_
    refine lv_aload_n C.1 C.2.1 dX8_isBlank_33 rfl (lv_at hl 0 rfl) ?_
    refine gf_X8_25 C hw ho0 dX8_isBlank_34 ?_
    refine lv_icmp_ge (tgt := 58) C.1 C.2.1 dX8_isBlank_37 (by decide) (fun hc1 => ?_) (fun hc1 => ?_)
    · replace hf := ea_if_t hc1 hf
      refine lv_iconst (v := 1) C.1 C.2.1 dX8_isBlank_58 (by decide) ?_
      exact ea_zret C hw (by decide) hf dX8_isBlank_59
    · replace hf := ea_if_f hc1 hf
      refine lv_aload_n C.1 C.2.1 dX8_isBlank_40 rfl (lv_at hl 0 rfl) ?_
      refine lv_iload_n C.1 C.2.1 dX8_isBlank_41 rfl (lv_at hl 3 rfl) ?_
      refine lv_iload_n C.1 C.2.1 dX8_isBlank_42 rfl (lv_at hl 1 rfl) ?_
      refine lv_iload_n C.1 C.2.1 dX8_isBlank_43 rfl (lv_at hl 2 rfl) ?_
      obtain ⟨r3, M4, he2, hf⟩ := ea_ci_s hf
      refine ea_runi2 hw (cl_X8_62 C hw ho0 (As := [.int x3, .int x1, .int x2]) (rest := []) (mX8_isTriedOf (l := l) (E := E) (ids := ids) hX ho0 he2) (by decide) rfl hl.1 rfl (Nat.le_of_ble_eq_true rfl) dX8_isBlank_44 ⟨Nat.le_refl _, Nat.le_refl _⟩) (fun H locs hw => ?_)
      refine lv_if_eq (tgt := 52) C.1 C.2.1 dX8_isBlank_47 (by decide) (fun hc5 => ?_) (fun hc5 => ?_)
      · replace hf := ea_if_t hc5 hf
        refine lv_iinc (v := x3 + (1 : Int32)) (lv' := [(3, .int (x3 + (1 : Int32))), (0, .ref (E.1 a0)), (1, .int x1), (2, .int x2)]) C.1 C.2.1 dX8_isBlank_52 hl (k := 3) rfl rfl (by decide) rfl (fun ls hl => ?_)
        refine lv_goto (tgt := 32) C.1 C.2.1 dX8_isBlank_55 (by decide) ?_
        exact ih _ _ _ _ _ _ _ hf hw (lv_sub hl [1, 2, 3, 0] rfl)
      · replace hf := ea_if_f hc5 hf
        refine lv_iconst (v := 0) C.1 C.2.1 dX8_isBlank_50 (by decide) ?_
        exact ea_zret C hw (by decide) hf dX8_isBlank_51
set_option maxHeartbeats 4000000 in
set_option maxRecDepth 20000 in
theorem wX8_isBlank_0 (C : ea_C p s m args meth cd cX8_isBlank 4 (some .boolean) RX8) (hX : ea_X ids) (ho0 : ea_ok ids a0 8) : ∀ (x1 : Int32) (x2 : Int32) (M : eM) (H : Heap) (locs : List Loc) (ls : Array Slot), fX8_isBlank_0 a0 x1 x2 M = some res → ea_w E ids M s H locs → lv_has ls 4 [(0, .ref (E.1 a0)), (1, .int x1), (2, .int x2)] → W p l e (ea_rm 2 43) s m args below meth cd H locs 0 0 (MQ below (ea_Qi E ids res) args s 0 0 (ea_Ad E ids)) (F0 m 0 ls []) := by
  intro x1 x2 M H locs ls hf  hw hl
  replace hf := (fX8_isBlank_0.eq_1 ..).symm.trans hf
  refine lv_aload_n C.1 C.2.1 dX8_isBlank_0 rfl (lv_at hl 0 rfl) ?_
  refine lv_aload_n C.1 C.2.1 dX8_isBlank_1 rfl (lv_at hl 0 rfl) ?_
  refine lv_iload_n C.1 C.2.1 dX8_isBlank_2 rfl (lv_at hl 1 rfl) ?_
  refine lv_iconst (v := 0) C.1 C.2.1 dX8_isBlank_3 (by decide) ?_
  refine lv_iload_n C.1 C.2.1 dX8_isBlank_4 rfl (lv_at hl 2 rfl) ?_
  obtain ⟨r2, M3, he1, hf⟩ := ea_ci_s hf
  refine ea_runi2 hw (cl_X8_54 C hw ho0 (As := [.int x1, .int (0 : Int32), .int x2]) (rest := [.ref (E.1 a0)]) (mX8_latestLook (l := l) (E := E) (ids := ids) hX ho0 he1) (by decide) rfl hl.1 rfl (Nat.le_of_ble_eq_true rfl) dX8_isBlank_5 ⟨Nat.le_refl _, Nat.le_refl _⟩) (fun H locs hw => ?_)
  obtain ⟨r5, M6, he4, hf⟩ := ea_ci_s hf
  refine ea_runi2 hw (cl_X8_58 C hw ho0 (As := [.int r2]) (rest := []) (mX8_isSeen (l := l) (E := E) (ids := ids) hX ho0 he4) (by decide) rfl hl.1 rfl (Nat.le_of_ble_eq_true rfl) dX8_isBlank_8 ⟨Nat.le_refl _, Nat.le_refl _⟩) (fun H locs hw => ?_)
  refine lv_if_ne (tgt := 28) C.1 C.2.1 dX8_isBlank_11 (by decide) (fun hc7 => ?_) (fun hc7 => ?_)
  · replace hf := ea_if_f hc7 hf
    refine lv_iconst (v := 0) C.1 C.2.1 dX8_isBlank_28 (by decide) ?_
    exact ea_zret C hw (by decide) hf dX8_isBlank_29
  · replace hf := ea_if_t hc7 hf
    refine lv_aload_n C.1 C.2.1 dX8_isBlank_14 rfl (lv_at hl 0 rfl) ?_
    refine lv_aload_n C.1 C.2.1 dX8_isBlank_15 rfl (lv_at hl 0 rfl) ?_
    refine lv_iload_n C.1 C.2.1 dX8_isBlank_16 rfl (lv_at hl 1 rfl) ?_
    refine lv_iconst (v := 1) C.1 C.2.1 dX8_isBlank_17 (by decide) ?_
    refine lv_iload_n C.1 C.2.1 dX8_isBlank_18 rfl (lv_at hl 2 rfl) ?_
    obtain ⟨r9, M10, he8, hf⟩ := ea_ci_s hf
    refine ea_runi2 hw (cl_X8_54 C hw ho0 (As := [.int x1, .int (1 : Int32), .int x2]) (rest := [.ref (E.1 a0)]) (mX8_latestLook (l := l) (E := E) (ids := ids) hX ho0 he8) (by decide) rfl hl.1 rfl (Nat.le_of_ble_eq_true rfl) dX8_isBlank_19 ⟨Nat.le_refl _, Nat.le_refl _⟩) (fun H locs hw => ?_)
    obtain ⟨r12, M13, he11, hf⟩ := ea_ci_s hf
    refine ea_runi2 hw (cl_X8_58 C hw ho0 (As := [.int r9]) (rest := []) (mX8_isSeen (l := l) (E := E) (ids := ids) hX ho0 he11) (by decide) rfl hl.1 rfl (Nat.le_of_ble_eq_true rfl) dX8_isBlank_22 ⟨Nat.le_refl _, Nat.le_refl _⟩) (fun H locs hw => ?_)
    refine lv_if_eq (tgt := 30) C.1 C.2.1 dX8_isBlank_25 (by decide) (fun hc14 => ?_) (fun hc14 => ?_)
    · replace hf := ea_if_t hc14 hf
      refine lv_iconst (v := 0) C.1 C.2.1 dX8_isBlank_30 (by decide) ?_
      refine lv_istore_n (lv' := [(3, .int (0 : Int32)), (0, .ref (E.1 a0)), (1, .int x1), (2, .int x2)]) C.1 C.2.1 dX8_isBlank_31 rfl hl (by decide) rfl (fun ls hl => ?_)
      exact wX8_isBlank_32 C hX ho0 ea_N _ _ _ _ _ _ _ hf hw (lv_sub hl [1, 2, 3, 0] rfl)
    · replace hf := ea_if_f hc14 hf
      refine lv_iconst (v := 0) C.1 C.2.1 dX8_isBlank_28 (by decide) ?_
      exact ea_zret C hw (by decide) hf dX8_isBlank_29
set_option maxHeartbeats 4000000 in
set_option maxRecDepth 20000 in
theorem mX8_isBlank {l : Launch} {E : eE} {ids : List Nat} (hX : ea_X ids) {a0 : Nat} {x1 : Int32} {x2 : Int32} (ho0 : ea_ok ids a0 8) {M : eM} {res : Int32 × eM} (hf : fX8_isBlank a0 x1 x2 M = some res) : ea_Mi l yX8_isBlank cX8_isBlank 4 (some .boolean) 2 43 E ids [.ref (E.1 a0), .int x1, .int x2] M res := by
  refine ea_goi (by decide) (Nat.le_of_ble_eq_true rfl) wc_X8_isBlank ?_
  intro p e s m below meth cd ls C hw hl
  exact wX8_isBlank_0 C hX ho0 _ _ _ _ _ _ hf hw hl
end SX8_isBlank

def fX10_bear_150 (k39 : Int32 → Int32 → Int32 → Int32 → Int32 → eM → Option (Int32 × eM)) (x1 : Int32) (x2 : Int32) (x3 : Int32) (x4 : Int32) (x5 : Int32) (M : eM) : Option (Int32 × eM) := k39 x1 x2 x3 x4 (x5 + (1 : Int32)) M
def fX10_bear_39 : Nat → Int32 → Int32 → Int32 → Int32 → Int32 → eM → Option (Int32 × eM)
  | 0, _, _, _, _, _, _ => none
  | n + 1, x1, x2, x3, x4, x5, M => ea_ck (ea_is (M.2.2 4 0) 1) (ea_ci (fX1_cells (M.2.2 4 0) M) (fun r3 M4 => if r3 ≤ x5 then (some (x4, M4)) else (ea_ci (fX8_isBlank 30 x5 (999 : Int32) M4) (fun r7 M8 => if r7 = 0 then (ea_cv (fX3_find 50 x5 x1 (999 : Int32) M8) (fun M11 => if (M11.1 50 6) = (1 : Int32) then (ea_ck (ea_is (M11.2.2 4 0) 1) (ea_ck (ea_is (M11.2.2 4 0) 1) (ea_ci (fX1_columnOf (M11.2.2 4 0) x5 M11) (fun r16 M17 => ea_ci (fX3_pairPart 50 (0 : Int32) (0 : Int32) M17) (fun r19 M20 => ea_ci (fX1_hoursOf (M11.2.2 4 0) x1 r16 r19 (0 : Int32) M20) (fun r22 M23 => ea_ci (fX10_yearsBorne (M23.1 50 9) r22 x2 x3 x4 M23) (fun r25 M26 => fX10_bear_150 (fX10_bear_39 n) x1 x2 x3 r25 x5 M26))))))) else (fX10_bear_150 (fX10_bear_39 n) x1 x2 x3 x4 x5 M11))) else (fX10_bear_150 (fX10_bear_39 n) x1 x2 x3 x4 x5 M8)))))
def fX10_bear_0 (x1 : Int32) (x2 : Int32) (x3 : Int32) (M : eM) : Option (Int32 × eM) := ea_ci (fX10_isStory x1 M) (fun r2 M3 => if r2 = 0 then (some ((-2 : Int32), M3)) else (ea_ci (fX10_isWithin x2 (1 : Int32) (99 : Int32) M3) (fun r6 M7 => if r6 = 0 then (some ((-2 : Int32), M7)) else (ea_ci (fX10_isWithin x3 (0 : Int32) (99 : Int32) M7) (fun r10 M11 => if r10 = 0 then (some ((-2 : Int32), M11)) else (fX10_bear_39 ea_N x1 x2 x3 (400 : Int32) (0 : Int32) M11))))))
def fX10_bear (x1 : Int32) (x2 : Int32) (x3 : Int32) (M : eM) : Option (Int32 × eM) := fX10_bear_0 x1 x2 x3 M
section SX10_bear
variable {p : Program} {l : Launch} {e : Env} {s : State} {m : MethodId} {args : Array Value} {below : List Frame} {meth : Method} {cd : Code} {E : eE} {ids : List Nat} {res : Int32 × eM}
set_option maxHeartbeats 4000000 in
set_option maxRecDepth 20000 in
theorem wX10_bear_150 (C : ea_C p s m args meth cd cX10_bear 7 (some .int) RX10) (hX : ea_X ids) {k39 : Int32 → Int32 → Int32 → Int32 → Int32 → eM → Option (Int32 × eM)} (hk39 : ∀ (x1 : Int32) (x2 : Int32) (x3 : Int32) (x4 : Int32) (x5 : Int32) (M : eM) (H : Heap) (locs : List Loc) (ls : Array Slot), k39 x1 x2 x3 x4 x5 M = some res → ea_w E ids M s H locs → lv_has ls 7 [(0, .ref (E.1 0)), (1, .int x1), (2, .int x2), (3, .int x3), (4, .int x4), (5, .int x5)] → W p l e (ea_rm 5 122) s m args below meth cd H locs 0 0 (MQ below (ea_Qi E ids res) args s 0 0 (ea_Ad E ids)) (F0 m 39 ls [])) : ∀ (x1 : Int32) (x2 : Int32) (x3 : Int32) (x4 : Int32) (x5 : Int32) (M : eM) (H : Heap) (locs : List Loc) (ls : Array Slot), fX10_bear_150 k39 x1 x2 x3 x4 x5 M = some res → ea_w E ids M s H locs → lv_has ls 7 [(0, .ref (E.1 0)), (1, .int x1), (2, .int x2), (3, .int x3), (4, .int x4), (5, .int x5)] → W p l e (ea_rm 5 122) s m args below meth cd H locs 0 0 (MQ below (ea_Qi E ids res) args s 0 0 (ea_Ad E ids)) (F0 m 150 ls []) := by
  intro x1 x2 x3 x4 x5 M H locs ls hf  hw hl
  replace hf := (fX10_bear_150.eq_1 ..).symm.trans hf
  refine lv_iinc (v := x5 + (1 : Int32)) (lv' := [(5, .int (x5 + (1 : Int32))), (0, .ref (E.1 0)), (1, .int x1), (2, .int x2), (3, .int x3), (4, .int x4)]) C.1 C.2.1 dX10_bear_150 hl (k := 5) rfl rfl (by decide) rfl (fun ls hl => ?_)
  refine lv_goto (tgt := 39) C.1 C.2.1 dX10_bear_153 (by decide) ?_
  exact hk39 _ _ _ _ _ _ _ _ _ hf hw (lv_sub hl [1, 2, 3, 4, 5, 0] rfl)
set_option maxHeartbeats 4000000 in
set_option maxRecDepth 20000 in
theorem wX10_bear_39 (C : ea_C p s m args meth cd cX10_bear 7 (some .int) RX10) (hX : ea_X ids) : ∀ (n : Nat) (x1 : Int32) (x2 : Int32) (x3 : Int32) (x4 : Int32) (x5 : Int32) (M : eM) (H : Heap) (locs : List Loc) (ls : Array Slot), fX10_bear_39 n x1 x2 x3 x4 x5 M = some res → ea_w E ids M s H locs → lv_has ls 7 [(0, .ref (E.1 0)), (1, .int x1), (2, .int x2), (3, .int x3), (4, .int x4), (5, .int x5)] → W p l e (ea_rm 5 122) s m args below meth cd H locs 0 0 (MQ below (ea_Qi E ids res) args s 0 0 (ea_Ad E ids)) (F0 m 39 ls []) := by
  intro n
  induction n with
  | zero => intro x1 x2 x3 x4 x5 M H locs ls hf; cases hf
  | succ n ih =>
    intro x1 x2 x3 x4 x5 M H locs ls hf  hw hl
    replace hf := (fX10_bear_39.eq_2 ..).symm.trans hf
    refine lv_iload C.1 C.2.1 dX10_bear_39 (lv_at hl 5 rfl) ?_
    refine lv_aload_n C.1 C.2.1 dX10_bear_41 rfl (lv_at hl 0 rfl) ?_
    refine gf_X10_24 C hw (hX 0 10 rfl) dX10_bear_42 ?_
    refine gf_X10_110 C hw (hX 4 9 rfl) dX10_bear_45 ?_
    obtain ⟨hc1, hf⟩ := ea_ck_s hf
    obtain ⟨r3, M4, he2, hf⟩ := ea_ci_s hf
    refine ea_runi2 hw (cl_X10_296 C hw (ea_dyn hX hc1) (As := []) (rest := [.int x5]) (mX1_cells (l := l) (E := E) (ids := ids) hX (ea_dyn hX hc1) he2) (by decide) rfl hl.1 rfl (Nat.le_of_ble_eq_true rfl) dX10_bear_48 ⟨Nat.le_refl _, Nat.le_refl _⟩) (fun H locs hw => ?_)
    refine lv_icmp_ge (tgt := 156) C.1 C.2.1 dX10_bear_51 (by decide) (fun hc5 => ?_) (fun hc5 => ?_)
    · replace hf := ea_if_t hc5 hf
      refine lv_iload C.1 C.2.1 dX10_bear_156 (lv_at hl 4 rfl) ?_
      exact ea_iret C hw hf dX10_bear_158
    · replace hf := ea_if_f hc5 hf
      refine lv_aload_n C.1 C.2.1 dX10_bear_54 rfl (lv_at hl 0 rfl) ?_
      refine gf_X10_44 C hw (hX 0 10 rfl) dX10_bear_55 ?_
      refine lv_iload C.1 C.2.1 dX10_bear_58 (lv_at hl 5 rfl) ?_
      refine lv_sipush (v := 999) C.1 C.2.1 dX10_bear_60 (by decide) ?_
      obtain ⟨r7, M8, he6, hf⟩ := ea_ci_s hf
      refine ea_runi2 hw (cl_X10_306 C hw (hX 30 8 rfl) (As := [.int x5, .int (999 : Int32)]) (rest := []) (mX8_isBlank (l := l) (E := E) (ids := ids) hX (hX 30 8 rfl) he6) (by decide) rfl hl.1 rfl (Nat.le_of_ble_eq_true rfl) dX10_bear_63 ⟨Nat.le_refl _, Nat.le_refl _⟩) (fun H locs hw => ?_)
      refine lv_if_eq (tgt := 72) C.1 C.2.1 dX10_bear_66 (by decide) (fun hc9 => ?_) (fun hc9 => ?_)
      · replace hf := ea_if_t hc9 hf
        refine lv_aload_n C.1 C.2.1 dX10_bear_72 rfl (lv_at hl 0 rfl) ?_
        refine gf_X10_57 C hw (hX 0 10 rfl) dX10_bear_73 ?_
        refine lv_iload C.1 C.2.1 dX10_bear_76 (lv_at hl 5 rfl) ?_
        refine lv_iload_n C.1 C.2.1 dX10_bear_78 rfl (lv_at hl 1 rfl) ?_
        refine lv_sipush (v := 999) C.1 C.2.1 dX10_bear_79 (by decide) ?_
        obtain ⟨M11, he10, hf⟩ := ea_cv_s hf
        refine ea_runv hw (cl_X10_241 C hw (hX 50 3 rfl) (As := [.int x5, .int x1, .int (999 : Int32)]) (rest := []) (mX3_find (l := l) (E := E) (ids := ids) hX (hX 50 3 rfl) he10) (by decide) rfl hl.1 rfl (Nat.le_of_ble_eq_true rfl) dX10_bear_82 ⟨Nat.le_refl _, Nat.le_refl _⟩) (fun H locs hw => ?_)
        refine lv_aload_n C.1 C.2.1 dX10_bear_85 rfl (lv_at hl 0 rfl) ?_
        refine gf_X10_57 C hw (hX 0 10 rfl) dX10_bear_86 ?_
        refine gf_X10_245 C hw (hX 50 3 rfl) dX10_bear_89 ?_
        refine lv_iconst (v := 1) C.1 C.2.1 dX10_bear_92 (by decide) ?_
        refine lv_icmp_ne (tgt := 150) C.1 C.2.1 dX10_bear_93 (by decide) (fun hc12 => ?_) (fun hc12 => ?_)
        · replace hf := ea_if_f hc12 hf
          exact wX10_bear_150 C hX ih _ _ _ _ _ _ _ _ _ hf hw (lv_sub hl [0, 1, 2, 3, 4, 5] rfl)
        · replace hf := ea_if_t hc12 hf
          refine lv_aload_n C.1 C.2.1 dX10_bear_96 rfl (lv_at hl 0 rfl) ?_
          refine gf_X10_24 C hw (hX 0 10 rfl) dX10_bear_97 ?_
          refine gf_X10_110 C hw (hX 4 9 rfl) dX10_bear_100 ?_
          obtain ⟨hc13, hf⟩ := ea_ck_s hf
          refine lv_iload_n C.1 C.2.1 dX10_bear_103 rfl (lv_at hl 1 rfl) ?_
          refine lv_aload_n C.1 C.2.1 dX10_bear_104 rfl (lv_at hl 0 rfl) ?_
          refine gf_X10_24 C hw (hX 0 10 rfl) dX10_bear_105 ?_
          refine gf_X10_110 C hw (hX 4 9 rfl) dX10_bear_108 ?_
          obtain ⟨hc14, hf⟩ := ea_ck_s hf
          refine lv_iload C.1 C.2.1 dX10_bear_111 (lv_at hl 5 rfl) ?_
          obtain ⟨r16, M17, he15, hf⟩ := ea_ci_s hf
          refine ea_runi2 hw (cl_X10_309 C hw (ea_dyn hX hc14) (As := [.int x5]) (rest := [.int x1, .ref (E.1 (M11.2.2 4 0))]) (mX1_columnOf (l := l) (E := E) (ids := ids) hX (ea_dyn hX hc14) he15) (by decide) rfl hl.1 rfl (Nat.le_of_ble_eq_true rfl) dX10_bear_113 ⟨Nat.le_refl _, Nat.le_refl _⟩) (fun H locs hw => ?_)
          refine lv_aload_n C.1 C.2.1 dX10_bear_116 rfl (lv_at hl 0 rfl) ?_
          refine gf_X10_57 C hw (hX 0 10 rfl) dX10_bear_117 ?_
          refine lv_iconst (v := 0) C.1 C.2.1 dX10_bear_120 (by decide) ?_
          refine lv_iconst (v := 0) C.1 C.2.1 dX10_bear_121 (by decide) ?_
          obtain ⟨r19, M20, he18, hf⟩ := ea_ci_s hf
          refine ea_runi2 hw (cl_X10_254 C hw (hX 50 3 rfl) (As := [.int (0 : Int32), .int (0 : Int32)]) (rest := [.int r16, .int x1, .ref (E.1 (M11.2.2 4 0))]) (mX3_pairPart (l := l) (E := E) (ids := ids) hX (hX 50 3 rfl) he18) (by decide) rfl hl.1 rfl (Nat.le_of_ble_eq_true rfl) dX10_bear_122 ⟨Nat.le_refl _, Nat.le_refl _⟩) (fun H locs hw => ?_)
          refine lv_iconst (v := 0) C.1 C.2.1 dX10_bear_125 (by decide) ?_
          obtain ⟨r22, M23, he21, hf⟩ := ea_ci_s hf
          refine ea_runi2 hw (cl_X10_173 C hw (ea_dyn hX hc13) (As := [.int x1, .int r16, .int r19, .int (0 : Int32)]) (rest := []) (mX1_hoursOf (l := l) (E := E) (ids := ids) hX (ea_dyn hX hc13) he21) (by decide) rfl hl.1 rfl (Nat.le_of_ble_eq_true rfl) dX10_bear_126 ⟨Nat.le_refl _, Nat.le_refl _⟩) (fun H locs hw => ?_)
          refine lv_istore (lv' := [(6, .int r22), (0, .ref (E.1 0)), (1, .int x1), (2, .int x2), (3, .int x3), (4, .int x4), (5, .int x5)]) C.1 C.2.1 dX10_bear_129 hl (by decide) rfl (fun ls hl => ?_)
          refine lv_aload_n C.1 C.2.1 dX10_bear_131 rfl (lv_at hl 1 rfl) ?_
          refine lv_aload_n C.1 C.2.1 dX10_bear_132 rfl (lv_at hl 1 rfl) ?_
          refine gf_X10_57 C hw (hX 0 10 rfl) dX10_bear_133 ?_
          refine gf_X10_251 C hw (hX 50 3 rfl) dX10_bear_136 ?_
          refine lv_iload C.1 C.2.1 dX10_bear_139 (lv_at hl 0 rfl) ?_
          refine lv_iload_n C.1 C.2.1 dX10_bear_141 rfl (lv_at hl 3 rfl) ?_
          refine lv_iload_n C.1 C.2.1 dX10_bear_142 rfl (lv_at hl 4 rfl) ?_
          refine lv_iload C.1 C.2.1 dX10_bear_143 (lv_at hl 5 rfl) ?_
          obtain ⟨r25, M26, he24, hf⟩ := ea_ci_s hf
          refine ea_runi2 hw (cl_X10_334 C hw (hX 0 10 rfl) (As := [.int (M23.1 50 9), .int r22, .int x2, .int x3, .int x4]) (rest := []) (mX10_yearsBorne (l := l) (E := E) (ids := ids) hX he24) (by decide) rfl hl.1 rfl (Nat.le_of_ble_eq_true rfl) dX10_bear_145 ⟨Nat.le_refl _, Nat.le_refl _⟩) (fun H locs hw => ?_)
          refine lv_istore (lv' := [(4, .int r25), (6, .int r22), (0, .ref (E.1 0)), (1, .int x1), (2, .int x2), (3, .int x3), (5, .int x5)]) C.1 C.2.1 dX10_bear_148 hl (by decide) rfl (fun ls hl => ?_)
          exact wX10_bear_150 C hX ih _ _ _ _ _ _ _ _ _ hf hw (lv_sub hl [2, 3, 4, 5, 0, 6] rfl)
      · replace hf := ea_if_f hc9 hf
        refine lv_goto (tgt := 150) C.1 C.2.1 dX10_bear_69 (by decide) ?_
        exact wX10_bear_150 C hX ih _ _ _ _ _ _ _ _ _ hf hw (lv_sub hl [0, 1, 2, 3, 4, 5] rfl)
set_option maxHeartbeats 4000000 in
set_option maxRecDepth 20000 in
theorem wX10_bear_0 (C : ea_C p s m args meth cd cX10_bear 7 (some .int) RX10) (hX : ea_X ids) : ∀ (x1 : Int32) (x2 : Int32) (x3 : Int32) (M : eM) (H : Heap) (locs : List Loc) (ls : Array Slot), fX10_bear_0 x1 x2 x3 M = some res → ea_w E ids M s H locs → lv_has ls 7 [(0, .ref (E.1 0)), (1, .int x1), (2, .int x2), (3, .int x3)] → W p l e (ea_rm 5 122) s m args below meth cd H locs 0 0 (MQ below (ea_Qi E ids res) args s 0 0 (ea_Ad E ids)) (F0 m 0 ls []) := by
  intro x1 x2 x3 M H locs ls hf  hw hl
  replace hf := (fX10_bear_0.eq_1 ..).symm.trans hf
  refine lv_aload_n C.1 C.2.1 dX10_bear_0 rfl (lv_at hl 0 rfl) ?_
  refine lv_iload_n C.1 C.2.1 dX10_bear_1 rfl (lv_at hl 1 rfl) ?_
  obtain ⟨r2, M3, he1, hf⟩ := ea_ci_s hf
  refine ea_runi2 hw (cl_X10_163 C hw (hX 0 10 rfl) (As := [.int x1]) (rest := []) (mX10_isStory (l := l) (E := E) (ids := ids) hX he1) (by decide) rfl hl.1 rfl (Nat.le_of_ble_eq_true rfl) dX10_bear_2 ⟨Nat.le_refl _, Nat.le_refl _⟩) (fun H locs hw => ?_)
  refine lv_if_eq (tgt := 28) C.1 C.2.1 dX10_bear_5 (by decide) (fun hc4 => ?_) (fun hc4 => ?_)
  · replace hf := ea_if_t hc4 hf
    refine lv_bipush (v := (-2 : Int32)) C.1 C.2.1 dX10_bear_28 (by decide) ?_
    exact ea_iret C hw hf dX10_bear_30
  · replace hf := ea_if_f hc4 hf
    refine lv_iload_n C.1 C.2.1 dX10_bear_8 rfl (lv_at hl 2 rfl) ?_
    refine lv_iconst (v := 1) C.1 C.2.1 dX10_bear_9 (by decide) ?_
    refine lv_bipush (v := 99) C.1 C.2.1 dX10_bear_10 (by decide) ?_
    obtain ⟨r6, M7, he5, hf⟩ := ea_ci_s hf
    refine ea_runi2 hw (cl_X10_133 C hw (As := [.int x2, .int (1 : Int32), .int (99 : Int32)]) (rest := []) (mX10_isWithin (l := l) (E := E) (ids := ids) hX he5) (by decide) rfl hl.1 rfl (Nat.le_of_ble_eq_true rfl) dX10_bear_12 ⟨Nat.le_refl _, Nat.le_refl _⟩) (fun H locs hw => ?_)
    refine lv_if_eq (tgt := 28) C.1 C.2.1 dX10_bear_15 (by decide) (fun hc8 => ?_) (fun hc8 => ?_)
    · replace hf := ea_if_t hc8 hf
      refine lv_bipush (v := (-2 : Int32)) C.1 C.2.1 dX10_bear_28 (by decide) ?_
      exact ea_iret C hw hf dX10_bear_30
    · replace hf := ea_if_f hc8 hf
      refine lv_iload_n C.1 C.2.1 dX10_bear_18 rfl (lv_at hl 3 rfl) ?_
      refine lv_iconst (v := 0) C.1 C.2.1 dX10_bear_19 (by decide) ?_
      refine lv_bipush (v := 99) C.1 C.2.1 dX10_bear_20 (by decide) ?_
      obtain ⟨r10, M11, he9, hf⟩ := ea_ci_s hf
      refine ea_runi2 hw (cl_X10_133 C hw (As := [.int x3, .int (0 : Int32), .int (99 : Int32)]) (rest := []) (mX10_isWithin (l := l) (E := E) (ids := ids) hX he9) (by decide) rfl hl.1 rfl (Nat.le_of_ble_eq_true rfl) dX10_bear_22 ⟨Nat.le_refl _, Nat.le_refl _⟩) (fun H locs hw => ?_)
      refine lv_if_ne (tgt := 31) C.1 C.2.1 dX10_bear_25 (by decide) (fun hc12 => ?_) (fun hc12 => ?_)
      · replace hf := ea_if_f hc12 hf
        refine lv_sipush (v := 400) C.1 C.2.1 dX10_bear_31 (by decide) ?_
        refine lv_istore (lv' := [(4, .int (400 : Int32)), (0, .ref (E.1 0)), (1, .int x1), (2, .int x2), (3, .int x3)]) C.1 C.2.1 dX10_bear_34 hl (by decide) rfl (fun ls hl => ?_)
        refine lv_iconst (v := 0) C.1 C.2.1 dX10_bear_36 (by decide) ?_
        refine lv_istore (lv' := [(5, .int (0 : Int32)), (4, .int (400 : Int32)), (0, .ref (E.1 0)), (1, .int x1), (2, .int x2), (3, .int x3)]) C.1 C.2.1 dX10_bear_37 hl (by decide) rfl (fun ls hl => ?_)
        exact wX10_bear_39 C hX ea_N _ _ _ _ _ _ _ _ _ hf hw (lv_sub hl [2, 3, 4, 5, 1, 0] rfl)
      · replace hf := ea_if_t hc12 hf
        refine lv_bipush (v := (-2 : Int32)) C.1 C.2.1 dX10_bear_28 (by decide) ?_
        exact ea_iret C hw hf dX10_bear_30
set_option maxHeartbeats 4000000 in
set_option maxRecDepth 20000 in
theorem mX10_bear {l : Launch} {E : eE} {ids : List Nat} (hX : ea_X ids) {x1 : Int32} {x2 : Int32} {x3 : Int32} {M : eM} {res : Int32 × eM} (hf : fX10_bear x1 x2 x3 M = some res) : ea_Mi l yX10_bear cX10_bear 7 (some .int) 5 122 E ids [.ref (E.1 0), .int x1, .int x2, .int x3] M res := by
  refine ea_goi (by decide) (Nat.le_of_ble_eq_true rfl) wc_X10_bear ?_
  intro p e s m below meth cd ls C hw hl
  exact wX10_bear_0 C hX _ _ _ _ _ _ _ hf hw hl
end SX10_bear

def fX10_isStep_0 (x0 : Int32) (M : eM) : Option (Int32 × eM) := ea_ci (fX10_isWithin x0 (0 : Int32) (999 : Int32) M) (fun r2 M3 => ea_ck (ea_01 r2) (some (r2, M3)))
def fX10_isStep (x0 : Int32) (M : eM) : Option (Int32 × eM) := fX10_isStep_0 x0 M
section SX10_isStep
variable {p : Program} {l : Launch} {e : Env} {s : State} {m : MethodId} {args : Array Value} {below : List Frame} {meth : Method} {cd : Code} {E : eE} {ids : List Nat} {res : Int32 × eM}
set_option maxHeartbeats 4000000 in
set_option maxRecDepth 20000 in
theorem wX10_isStep_0 (C : ea_C p s m args meth cd cX10_isStep 1 (some .boolean) RX10) (hX : ea_X ids) : ∀ (x0 : Int32) (M : eM) (H : Heap) (locs : List Loc) (ls : Array Slot), fX10_isStep_0 x0 M = some res → ea_w E ids M s H locs → lv_has ls 1 [(0, .int x0)] → W p l e (ea_rm 1 22) s m args below meth cd H locs 0 0 (MQ below (ea_Qi E ids res) args s 0 0 (ea_Ad E ids)) (F0 m 0 ls []) := by
  intro x0 M H locs ls hf  hw hl
  replace hf := (fX10_isStep_0.eq_1 ..).symm.trans hf
  refine lv_iload_n C.1 C.2.1 dX10_isStep_0 rfl (lv_at hl 0 rfl) ?_
  refine lv_iconst (v := 0) C.1 C.2.1 dX10_isStep_1 (by decide) ?_
  refine lv_sipush (v := 999) C.1 C.2.1 dX10_isStep_2 (by decide) ?_
  obtain ⟨r2, M3, he1, hf⟩ := ea_ci_s hf
  refine ea_runi2 hw (cl_X10_133 C hw (As := [.int x0, .int (0 : Int32), .int (999 : Int32)]) (rest := []) (mX10_isWithin (l := l) (E := E) (ids := ids) hX he1) (by decide) rfl hl.1 rfl (Nat.le_of_ble_eq_true rfl) dX10_isStep_5 ⟨Nat.le_refl _, Nat.le_refl _⟩) (fun H locs hw => ?_)
  obtain ⟨hc4, hf⟩ := ea_ck_s hf
  exact ea_zret C hw (ea_01_s hc4) hf dX10_isStep_8
set_option maxHeartbeats 4000000 in
set_option maxRecDepth 20000 in
theorem mX10_isStep {l : Launch} {E : eE} {ids : List Nat} (hX : ea_X ids) {x0 : Int32} {M : eM} {res : Int32 × eM} (hf : fX10_isStep x0 M = some res) : ea_Mi l yX10_isStep cX10_isStep 1 (some .boolean) 1 22 E ids [.int x0] M res := by
  refine ea_goi (by decide) (Nat.le_of_ble_eq_true rfl) wc_X10_isStep ?_
  intro p e s m below meth cd ls C hw hl
  exact wX10_isStep_0 C hX _ _ _ _ _ hf hw hl
end SX10_isStep

def fX10_mayFit_0 (x1 : Int32) (x2 : Int32) (x3 : Int32) (M : eM) : Option (Int32 × eM) := ea_ci (fX10_isCell x1 M) (fun r2 M3 => if r2 = 0 then (some ((0 : Int32), M3)) else (ea_ci (fX10_isStory x2 M3) (fun r6 M7 => if r6 = 0 then (some ((0 : Int32), M7)) else (ea_ci (fX10_isStep x3 M7) (fun r10 M11 => if r10 = 0 then (some ((0 : Int32), M11)) else (some ((1 : Int32), M11)))))))
def fX10_mayFit (x1 : Int32) (x2 : Int32) (x3 : Int32) (M : eM) : Option (Int32 × eM) := fX10_mayFit_0 x1 x2 x3 M
section SX10_mayFit
variable {p : Program} {l : Launch} {e : Env} {s : State} {m : MethodId} {args : Array Value} {below : List Frame} {meth : Method} {cd : Code} {E : eE} {ids : List Nat} {res : Int32 × eM}
set_option maxHeartbeats 4000000 in
set_option maxRecDepth 20000 in
theorem wX10_mayFit_0 (C : ea_C p s m args meth cd cX10_mayFit 4 (some .boolean) RX10) (hX : ea_X ids) : ∀ (x1 : Int32) (x2 : Int32) (x3 : Int32) (M : eM) (H : Heap) (locs : List Loc) (ls : Array Slot), fX10_mayFit_0 x1 x2 x3 M = some res → ea_w E ids M s H locs → lv_has ls 4 [(0, .ref (E.1 0)), (1, .int x1), (2, .int x2), (3, .int x3)] → W p l e (ea_rm 2 43) s m args below meth cd H locs 0 0 (MQ below (ea_Qi E ids res) args s 0 0 (ea_Ad E ids)) (F0 m 0 ls []) := by
  intro x1 x2 x3 M H locs ls hf  hw hl
  replace hf := (fX10_mayFit_0.eq_1 ..).symm.trans hf
  refine lv_aload_n C.1 C.2.1 dX10_mayFit_0 rfl (lv_at hl 0 rfl) ?_
  refine lv_iload_n C.1 C.2.1 dX10_mayFit_1 rfl (lv_at hl 1 rfl) ?_
  obtain ⟨r2, M3, he1, hf⟩ := ea_ci_s hf
  refine ea_runi2 hw (cl_X10_196 C hw (hX 0 10 rfl) (As := [.int x1]) (rest := []) (mX10_isCell (l := l) (E := E) (ids := ids) hX he1) (by decide) rfl hl.1 rfl (Nat.le_of_ble_eq_true rfl) dX10_mayFit_2 ⟨Nat.le_refl _, Nat.le_refl _⟩) (fun H locs hw => ?_)
  refine lv_if_eq (tgt := 27) C.1 C.2.1 dX10_mayFit_5 (by decide) (fun hc4 => ?_) (fun hc4 => ?_)
  · replace hf := ea_if_t hc4 hf
    refine lv_iconst (v := 0) C.1 C.2.1 dX10_mayFit_27 (by decide) ?_
    exact ea_zret C hw (by decide) hf dX10_mayFit_28
  · replace hf := ea_if_f hc4 hf
    refine lv_aload_n C.1 C.2.1 dX10_mayFit_8 rfl (lv_at hl 0 rfl) ?_
    refine lv_iload_n C.1 C.2.1 dX10_mayFit_9 rfl (lv_at hl 2 rfl) ?_
    obtain ⟨r6, M7, he5, hf⟩ := ea_ci_s hf
    refine ea_runi2 hw (cl_X10_163 C hw (hX 0 10 rfl) (As := [.int x2]) (rest := []) (mX10_isStory (l := l) (E := E) (ids := ids) hX he5) (by decide) rfl hl.1 rfl (Nat.le_of_ble_eq_true rfl) dX10_mayFit_10 ⟨Nat.le_refl _, Nat.le_refl _⟩) (fun H locs hw => ?_)
    refine lv_if_eq (tgt := 27) C.1 C.2.1 dX10_mayFit_13 (by decide) (fun hc8 => ?_) (fun hc8 => ?_)
    · replace hf := ea_if_t hc8 hf
      refine lv_iconst (v := 0) C.1 C.2.1 dX10_mayFit_27 (by decide) ?_
      exact ea_zret C hw (by decide) hf dX10_mayFit_28
    · replace hf := ea_if_f hc8 hf
      refine lv_iload_n C.1 C.2.1 dX10_mayFit_16 rfl (lv_at hl 3 rfl) ?_
      obtain ⟨r10, M11, he9, hf⟩ := ea_ci_s hf
      refine ea_runi2 hw (cl_X10_225 C hw (As := [.int x3]) (rest := []) (mX10_isStep (l := l) (E := E) (ids := ids) hX he9) (by decide) rfl hl.1 rfl (Nat.le_of_ble_eq_true rfl) dX10_mayFit_17 ⟨Nat.le_refl _, Nat.le_refl _⟩) (fun H locs hw => ?_)
      refine lv_if_eq (tgt := 27) C.1 C.2.1 dX10_mayFit_20 (by decide) (fun hc12 => ?_) (fun hc12 => ?_)
      · replace hf := ea_if_t hc12 hf
        refine lv_iconst (v := 0) C.1 C.2.1 dX10_mayFit_27 (by decide) ?_
        exact ea_zret C hw (by decide) hf dX10_mayFit_28
      · replace hf := ea_if_f hc12 hf
        refine lv_iconst (v := 1) C.1 C.2.1 dX10_mayFit_23 (by decide) ?_
        refine lv_goto (tgt := 28) C.1 C.2.1 dX10_mayFit_24 (by decide) ?_
        exact ea_zret C hw (by decide) hf dX10_mayFit_28
set_option maxHeartbeats 4000000 in
set_option maxRecDepth 20000 in
theorem mX10_mayFit {l : Launch} {E : eE} {ids : List Nat} (hX : ea_X ids) {x1 : Int32} {x2 : Int32} {x3 : Int32} {M : eM} {res : Int32 × eM} (hf : fX10_mayFit x1 x2 x3 M = some res) : ea_Mi l yX10_mayFit cX10_mayFit 4 (some .boolean) 2 43 E ids [.ref (E.1 0), .int x1, .int x2, .int x3] M res := by
  refine ea_goi (by decide) (Nat.le_of_ble_eq_true rfl) wc_X10_mayFit ?_
  intro p e s m below meth cd ls C hw hl
  exact wX10_mayFit_0 C hX _ _ _ _ _ _ _ hf hw hl
end SX10_mayFit

def fX10_sureAmong_40 (k6 : Int32 → Int32 → Int32 → Int32 → eM → Option (Int32 × eM)) (x1 : Int32) (x3 : Int32) (x5 : Int32) (t0 : Int32) (t1 : Int32) (M : eM) : Option (Int32 × eM) := k6 x1 x3 (t1 + t0) (x5 + (1 : Int32)) M
def fX10_sureAmong_6 : Nat → Int32 → Int32 → Int32 → Int32 → eM → Option (Int32 × eM)
  | 0, _, _, _, _, _ => none
  | n + 1, x1, x3, x4, x5, M => if x3 ≤ x5 then (some (x4, M)) else (if (nI (ea_len 79)) ≤ x5 then (some (x4, M)) else (ea_ck (ea_ix x5 (ea_len 79)) (if (M.1 79 x5.toNatClampNeg) = x1 then (fX10_sureAmong_40 (fX10_sureAmong_6 n) x1 x3 x5 (1 : Int32) x4 M) else (fX10_sureAmong_40 (fX10_sureAmong_6 n) x1 x3 x5 (0 : Int32) x4 M))))
def fX10_sureAmong_0 (x1 : Int32) (x2 : Int32) (x3 : Int32) (M : eM) : Option (Int32 × eM) := fX10_sureAmong_6 ea_N x1 x3 (0 : Int32) x2 M
def fX10_sureAmong (x1 : Int32) (x2 : Int32) (x3 : Int32) (M : eM) : Option (Int32 × eM) := fX10_sureAmong_0 x1 x2 x3 M
section SX10_sureAmong
variable {p : Program} {l : Launch} {e : Env} {s : State} {m : MethodId} {args : Array Value} {below : List Frame} {meth : Method} {cd : Code} {E : eE} {ids : List Nat} {res : Int32 × eM}
set_option maxHeartbeats 4000000 in
set_option maxRecDepth 20000 in
theorem wX10_sureAmong_40 (C : ea_C p s m args meth cd cX10_sureAmong 6 (some .int) RX10) (hX : ea_X ids) {k6 : Int32 → Int32 → Int32 → Int32 → eM → Option (Int32 × eM)} (hk6 : ∀ (x1 : Int32) (x3 : Int32) (x4 : Int32) (x5 : Int32) (M : eM) (H : Heap) (locs : List Loc) (ls : Array Slot), k6 x1 x3 x4 x5 M = some res → ea_w E ids M s H locs → lv_has ls 6 [(0, .ref (E.1 0)), (1, .int x1), (3, .int x3), (4, .int x4), (5, .int x5)] → W p l e (ea_rm 0 0) s m args below meth cd H locs 0 0 (MQ below (ea_Qi E ids res) args s 0 0 (ea_Ad E ids)) (F0 m 6 ls [])) : ∀ (x1 : Int32) (x3 : Int32) (x5 : Int32) (t0 : Int32) (t1 : Int32) (M : eM) (H : Heap) (locs : List Loc) (ls : Array Slot), fX10_sureAmong_40 k6 x1 x3 x5 t0 t1 M = some res → ea_w E ids M s H locs → lv_has ls 6 [(0, .ref (E.1 0)), (1, .int x1), (3, .int x3), (5, .int x5)] → W p l e (ea_rm 0 0) s m args below meth cd H locs 0 0 (MQ below (ea_Qi E ids res) args s 0 0 (ea_Ad E ids)) (F0 m 40 ls [.int t0, .int t1]) := by
  intro x1 x3 x5 t0 t1 M H locs ls hf  hw hl
  replace hf := (fX10_sureAmong_40.eq_1 ..).symm.trans hf
  refine lv_iadd C.1 C.2.1 dX10_sureAmong_40 ?_
  refine lv_istore (lv' := [(4, .int (t1 + t0)), (0, .ref (E.1 0)), (1, .int x1), (3, .int x3), (5, .int x5)]) C.1 C.2.1 dX10_sureAmong_41 hl (by decide) rfl (fun ls hl => ?_)
  refine lv_iinc (v := x5 + (1 : Int32)) (lv' := [(5, .int (x5 + (1 : Int32))), (4, .int (t1 + t0)), (0, .ref (E.1 0)), (1, .int x1), (3, .int x3)]) C.1 C.2.1 dX10_sureAmong_43 hl (k := 4) rfl rfl (by decide) rfl (fun ls hl => ?_)
  refine lv_goto (tgt := 6) C.1 C.2.1 dX10_sureAmong_46 (by decide) ?_
  exact hk6 _ _ _ _ _ _ _ _ hf hw (lv_sub hl [2, 3, 4, 1, 0] rfl)
set_option maxHeartbeats 4000000 in
set_option maxRecDepth 20000 in
theorem wX10_sureAmong_6 (C : ea_C p s m args meth cd cX10_sureAmong 6 (some .int) RX10) (hX : ea_X ids) : ∀ (n : Nat) (x1 : Int32) (x3 : Int32) (x4 : Int32) (x5 : Int32) (M : eM) (H : Heap) (locs : List Loc) (ls : Array Slot), fX10_sureAmong_6 n x1 x3 x4 x5 M = some res → ea_w E ids M s H locs → lv_has ls 6 [(0, .ref (E.1 0)), (1, .int x1), (3, .int x3), (4, .int x4), (5, .int x5)] → W p l e (ea_rm 0 0) s m args below meth cd H locs 0 0 (MQ below (ea_Qi E ids res) args s 0 0 (ea_Ad E ids)) (F0 m 6 ls []) := by
  intro n
  induction n with
  | zero => intro x1 x3 x4 x5 M H locs ls hf; cases hf
  | succ n ih =>
    intro x1 x3 x4 x5 M H locs ls hf  hw hl
    replace hf := (fX10_sureAmong_6.eq_2 ..).symm.trans hf
    refine lv_iload C.1 C.2.1 dX10_sureAmong_6 (lv_at hl 4 rfl) ?_
    refine lv_iload_n C.1 C.2.1 dX10_sureAmong_8 rfl (lv_at hl 2 rfl) ?_
    refine lv_icmp_ge (tgt := 49) C.1 C.2.1 dX10_sureAmong_9 (by decide) (fun hc1 => ?_) (fun hc1 => ?_)
    · replace hf := ea_if_t hc1 hf
      refine lv_iload C.1 C.2.1 dX10_sureAmong_49 (lv_at hl 3 rfl) ?_
      exact ea_iret C hw hf dX10_sureAmong_51
    · replace hf := ea_if_f hc1 hf
      refine lv_iload C.1 C.2.1 dX10_sureAmong_12 (lv_at hl 4 rfl) ?_
      refine lv_aload_n C.1 C.2.1 dX10_sureAmong_14 rfl (lv_at hl 0 rfl) ?_
      refine gf_X10_85 C hw (hX 0 10 rfl) dX10_sureAmong_15 ?_
      refine ea_alen C hw (hX 79 20 rfl) (by decide) dX10_sureAmong_18 ?_
      refine lv_icmp_ge (tgt := 49) C.1 C.2.1 dX10_sureAmong_19 (by decide) (fun hc2 => ?_) (fun hc2 => ?_)
      · replace hf := ea_if_t hc2 hf
        refine lv_iload C.1 C.2.1 dX10_sureAmong_49 (lv_at hl 3 rfl) ?_
        exact ea_iret C hw hf dX10_sureAmong_51
      · replace hf := ea_if_f hc2 hf
        refine lv_iload C.1 C.2.1 dX10_sureAmong_22 (lv_at hl 3 rfl) ?_
        refine lv_aload_n C.1 C.2.1 dX10_sureAmong_24 rfl (lv_at hl 0 rfl) ?_
        refine gf_X10_85 C hw (hX 0 10 rfl) dX10_sureAmong_25 ?_
        refine lv_iload C.1 C.2.1 dX10_sureAmong_28 (lv_at hl 4 rfl) ?_
        obtain ⟨hc3, hf⟩ := ea_ck_s hf
        refine ea_iald C hw (hX 79 20 rfl) hc3 dX10_sureAmong_30 ?_
        refine lv_iload_n C.1 C.2.1 dX10_sureAmong_31 rfl (lv_at hl 1 rfl) ?_
        refine lv_icmp_ne (tgt := 39) C.1 C.2.1 dX10_sureAmong_32 (by decide) (fun hc4 => ?_) (fun hc4 => ?_)
        · replace hf := ea_if_f hc4 hf
          refine lv_iconst (v := 0) C.1 C.2.1 dX10_sureAmong_39 (by decide) ?_
          exact wX10_sureAmong_40 C hX ih _ _ _ _ _ _ _ _ _ hf hw (lv_sub hl [0, 1, 2, 4] rfl)
        · replace hf := ea_if_t hc4 hf
          refine lv_iconst (v := 1) C.1 C.2.1 dX10_sureAmong_35 (by decide) ?_
          refine lv_goto (tgt := 40) C.1 C.2.1 dX10_sureAmong_36 (by decide) ?_
          exact wX10_sureAmong_40 C hX ih _ _ _ _ _ _ _ _ _ hf hw (lv_sub hl [0, 1, 2, 4] rfl)
set_option maxHeartbeats 4000000 in
set_option maxRecDepth 20000 in
theorem wX10_sureAmong_0 (C : ea_C p s m args meth cd cX10_sureAmong 6 (some .int) RX10) (hX : ea_X ids) : ∀ (x1 : Int32) (x2 : Int32) (x3 : Int32) (M : eM) (H : Heap) (locs : List Loc) (ls : Array Slot), fX10_sureAmong_0 x1 x2 x3 M = some res → ea_w E ids M s H locs → lv_has ls 6 [(0, .ref (E.1 0)), (1, .int x1), (2, .int x2), (3, .int x3)] → W p l e (ea_rm 0 0) s m args below meth cd H locs 0 0 (MQ below (ea_Qi E ids res) args s 0 0 (ea_Ad E ids)) (F0 m 0 ls []) := by
  intro x1 x2 x3 M H locs ls hf  hw hl
  replace hf := (fX10_sureAmong_0.eq_1 ..).symm.trans hf
  refine lv_iconst (v := 0) C.1 C.2.1 dX10_sureAmong_0 (by decide) ?_
  refine lv_istore (lv' := [(4, .int (0 : Int32)), (0, .ref (E.1 0)), (1, .int x1), (2, .int x2), (3, .int x3)]) C.1 C.2.1 dX10_sureAmong_1 hl (by decide) rfl (fun ls hl => ?_)
  refine lv_iload_n C.1 C.2.1 dX10_sureAmong_3 rfl (lv_at hl 3 rfl) ?_
  refine lv_istore (lv' := [(5, .int x2), (4, .int (0 : Int32)), (0, .ref (E.1 0)), (1, .int x1), (2, .int x2), (3, .int x3)]) C.1 C.2.1 dX10_sureAmong_4 hl (by decide) rfl (fun ls hl => ?_)
  exact wX10_sureAmong_6 C hX ea_N _ _ _ _ _ _ _ _ hf hw (lv_sub hl [2, 3, 5, 1, 0] rfl)
set_option maxHeartbeats 4000000 in
set_option maxRecDepth 20000 in
theorem mX10_sureAmong {l : Launch} {E : eE} {ids : List Nat} (hX : ea_X ids) {x1 : Int32} {x2 : Int32} {x3 : Int32} {M : eM} {res : Int32 × eM} (hf : fX10_sureAmong x1 x2 x3 M = some res) : ea_Mi l yX10_sureAmong cX10_sureAmong 6 (some .int) 0 0 E ids [.ref (E.1 0), .int x1, .int x2, .int x3] M res := by
  refine ea_goi (by decide) (Nat.le_of_ble_eq_true rfl) wc_X10_sureAmong ?_
  intro p e s m below meth cd ls C hw hl
  exact wX10_sureAmong_0 C hX _ _ _ _ _ _ _ hf hw hl
end SX10_sureAmong

def fX10_sureThread_0 (x1 : Int32) (x2 : Int32) (x3 : Int32) (M : eM) : Option (Int32 × eM) := ea_ci (fX8_isBlank 30 x1 x3 M) (fun r2 M3 => if r2 = 0 then (ea_cv (fX3_find 50 x1 x2 x3 M3) (fun M6 => if (M6.1 50 8) = (1 : Int32) then (some (M6.1 50 9, M6)) else (some ((-1 : Int32), M6)))) else (some ((-1 : Int32), M3)))
def fX10_sureThread (x1 : Int32) (x2 : Int32) (x3 : Int32) (M : eM) : Option (Int32 × eM) := fX10_sureThread_0 x1 x2 x3 M
section SX10_sureThread
variable {p : Program} {l : Launch} {e : Env} {s : State} {m : MethodId} {args : Array Value} {below : List Frame} {meth : Method} {cd : Code} {E : eE} {ids : List Nat} {res : Int32 × eM}
set_option maxHeartbeats 4000000 in
set_option maxRecDepth 20000 in
theorem wX10_sureThread_0 (C : ea_C p s m args meth cd cX10_sureThread 4 (some .int) RX10) (hX : ea_X ids) : ∀ (x1 : Int32) (x2 : Int32) (x3 : Int32) (M : eM) (H : Heap) (locs : List Loc) (ls : Array Slot), fX10_sureThread_0 x1 x2 x3 M = some res → ea_w E ids M s H locs → lv_has ls 4 [(0, .ref (E.1 0)), (1, .int x1), (2, .int x2), (3, .int x3)] → W p l e (ea_rm 4 103) s m args below meth cd H locs 0 0 (MQ below (ea_Qi E ids res) args s 0 0 (ea_Ad E ids)) (F0 m 0 ls []) := by
  intro x1 x2 x3 M H locs ls hf  hw hl
  replace hf := (fX10_sureThread_0.eq_1 ..).symm.trans hf
  refine lv_aload_n C.1 C.2.1 dX10_sureThread_0 rfl (lv_at hl 0 rfl) ?_
  refine gf_X10_44 C hw (hX 0 10 rfl) dX10_sureThread_1 ?_
  refine lv_iload_n C.1 C.2.1 dX10_sureThread_4 rfl (lv_at hl 1 rfl) ?_
  refine lv_iload_n C.1 C.2.1 dX10_sureThread_5 rfl (lv_at hl 3 rfl) ?_
  obtain ⟨r2, M3, he1, hf⟩ := ea_ci_s hf
  refine ea_runi2 hw (cl_X10_306 C hw (hX 30 8 rfl) (As := [.int x1, .int x3]) (rest := []) (mX8_isBlank (l := l) (E := E) (ids := ids) hX (hX 30 8 rfl) he1) (by decide) rfl hl.1 rfl (Nat.le_of_ble_eq_true rfl) dX10_sureThread_6 ⟨Nat.le_refl _, Nat.le_refl _⟩) (fun H locs hw => ?_)
  refine lv_if_eq (tgt := 14) C.1 C.2.1 dX10_sureThread_9 (by decide) (fun hc4 => ?_) (fun hc4 => ?_)
  · replace hf := ea_if_t hc4 hf
    refine lv_aload_n C.1 C.2.1 dX10_sureThread_14 rfl (lv_at hl 0 rfl) ?_
    refine gf_X10_57 C hw (hX 0 10 rfl) dX10_sureThread_15 ?_
    refine lv_iload_n C.1 C.2.1 dX10_sureThread_18 rfl (lv_at hl 1 rfl) ?_
    refine lv_iload_n C.1 C.2.1 dX10_sureThread_19 rfl (lv_at hl 2 rfl) ?_
    refine lv_iload_n C.1 C.2.1 dX10_sureThread_20 rfl (lv_at hl 3 rfl) ?_
    obtain ⟨M6, he5, hf⟩ := ea_cv_s hf
    refine ea_runv hw (cl_X10_241 C hw (hX 50 3 rfl) (As := [.int x1, .int x2, .int x3]) (rest := []) (mX3_find (l := l) (E := E) (ids := ids) hX (hX 50 3 rfl) he5) (by decide) rfl hl.1 rfl (Nat.le_of_ble_eq_true rfl) dX10_sureThread_21 ⟨Nat.le_refl _, Nat.le_refl _⟩) (fun H locs hw => ?_)
    refine lv_aload_n C.1 C.2.1 dX10_sureThread_24 rfl (lv_at hl 0 rfl) ?_
    refine gf_X10_57 C hw (hX 0 10 rfl) dX10_sureThread_25 ?_
    refine gf_X10_248 C hw (hX 50 3 rfl) dX10_sureThread_28 ?_
    refine lv_iconst (v := 1) C.1 C.2.1 dX10_sureThread_31 (by decide) ?_
    refine lv_icmp_ne (tgt := 45) C.1 C.2.1 dX10_sureThread_32 (by decide) (fun hc7 => ?_) (fun hc7 => ?_)
    · replace hf := ea_if_f hc7 hf
      refine lv_iconst (v := (-1 : Int32)) C.1 C.2.1 dX10_sureThread_45 (by decide) ?_
      exact ea_iret C hw hf dX10_sureThread_46
    · replace hf := ea_if_t hc7 hf
      refine lv_aload_n C.1 C.2.1 dX10_sureThread_35 rfl (lv_at hl 0 rfl) ?_
      refine gf_X10_57 C hw (hX 0 10 rfl) dX10_sureThread_36 ?_
      refine gf_X10_251 C hw (hX 50 3 rfl) dX10_sureThread_39 ?_
      refine lv_goto (tgt := 46) C.1 C.2.1 dX10_sureThread_42 (by decide) ?_
      exact ea_iret C hw hf dX10_sureThread_46
  · replace hf := ea_if_f hc4 hf
    refine lv_iconst (v := (-1 : Int32)) C.1 C.2.1 dX10_sureThread_12 (by decide) ?_
    exact ea_iret C hw hf dX10_sureThread_13
set_option maxHeartbeats 4000000 in
set_option maxRecDepth 20000 in
theorem mX10_sureThread {l : Launch} {E : eE} {ids : List Nat} (hX : ea_X ids) {x1 : Int32} {x2 : Int32} {x3 : Int32} {M : eM} {res : Int32 × eM} (hf : fX10_sureThread x1 x2 x3 M = some res) : ea_Mi l yX10_sureThread cX10_sureThread 4 (some .int) 4 103 E ids [.ref (E.1 0), .int x1, .int x2, .int x3] M res := by
  refine ea_goi (by decide) (Nat.le_of_ble_eq_true rfl) wc_X10_sureThread ?_
  intro p e s m below meth cd ls C hw hl
  exact wX10_sureThread_0 C hX _ _ _ _ _ _ _ hf hw hl
end SX10_sureThread

def fX1_cellBeside_80 (a0 : Nat) (x4 : Int32) (x5 : Int32) (M : eM) : Option (Int32 × eM) := some ((x5 * (M.1 a0 0)) + x4, M)
def fX1_cellBeside_65 (a0 : Nat) (x2 : Int32) (x3 : Int32) (x4 : Int32) (x5 : Int32) (t0 : Int32) (M : eM) : Option (Int32 × eM) := if t0 = 0 then (some ((-1 : Int32), M)) else (if x2 = 0 then (if x3 = 0 then (some ((-1 : Int32), M)) else (fX1_cellBeside_80 a0 x4 x5 M)) else (fX1_cellBeside_80 a0 x4 x5 M))
def fX1_cellBeside_64 (a0 : Nat) (x2 : Int32) (x3 : Int32) (x4 : Int32) (x5 : Int32) (M : eM) : Option (Int32 × eM) := fX1_cellBeside_65 a0 x2 x3 x4 x5 (0 : Int32) M
def fX1_cellBeside_26 (a0 : Nat) (x2 : Int32) (x3 : Int32) (x4 : Int32) (t0 : Int32) (M : eM) : Option (Int32 × eM) := ea_ci (fX10_isWithin x4 (0 : Int32) ((M.1 a0 0) - (1 : Int32)) M) (fun r2 M3 => if r2 = 0 then (fX1_cellBeside_64 a0 x2 x3 x4 (t0 + x3) M3) else (ea_ci (fX10_isWithin (t0 + x3) (0 : Int32) ((M3.1 a0 1) - (1 : Int32)) M3) (fun r6 M7 => if r6 = 0 then (fX1_cellBeside_64 a0 x2 x3 x4 (t0 + x3) M7) else (fX1_cellBeside_65 a0 x2 x3 x4 (t0 + x3) (1 : Int32) M7))))
def fX1_cellBeside_0 (a0 : Nat) (x1 : Int32) (x2 : Int32) (x3 : Int32) (M : eM) : Option (Int32 × eM) := ea_ci (fX1_columnOf a0 x1 M) (fun r2 M3 => if (M3.1 a0 0) ≤ 0 then (fX1_cellBeside_26 a0 x2 x3 (r2 + x2) (0 : Int32) M3) else (ea_ck (ea_nz (M3.1 a0 0)) (fX1_cellBeside_26 a0 x2 x3 (r2 + x2) (x1 / (M3.1 a0 0)) M3)))
def fX1_cellBeside (a0 : Nat) (x1 : Int32) (x2 : Int32) (x3 : Int32) (M : eM) : Option (Int32 × eM) := fX1_cellBeside_0 a0 x1 x2 x3 M
section SX1_cellBeside
variable {p : Program} {l : Launch} {e : Env} {s : State} {m : MethodId} {args : Array Value} {below : List Frame} {meth : Method} {cd : Code} {E : eE} {ids : List Nat} {res : Int32 × eM} {a0 : Nat}
set_option maxHeartbeats 4000000 in
set_option maxRecDepth 20000 in
theorem wX1_cellBeside_80 (C : ea_C p s m args meth cd cX1_cellBeside 7 (some .int) RX1) (hX : ea_X ids) (ho0 : ea_ok ids a0 1) : ∀ (x4 : Int32) (x5 : Int32) (M : eM) (H : Heap) (locs : List Loc) (ls : Array Slot), fX1_cellBeside_80 a0 x4 x5 M = some res → ea_w E ids M s H locs → lv_has ls 7 [(0, .ref (E.1 a0)), (4, .int x4), (5, .int x5)] → W p l e (ea_rm 1 22) s m args below meth cd H locs 0 0 (MQ below (ea_Qi E ids res) args s 0 0 (ea_Ad E ids)) (F0 m 80 ls []) := by
  intro x4 x5 M H locs ls hf  hw hl
  replace hf := (fX1_cellBeside_80.eq_1 ..).symm.trans hf
  refine lv_iload C.1 C.2.1 dX1_cellBeside_80 (lv_at hl 2 rfl) ?_
  refine lv_aload_n C.1 C.2.1 dX1_cellBeside_82 rfl (lv_at hl 0 rfl) ?_
  refine gf_X1_43 C hw ho0 dX1_cellBeside_83 ?_
  refine lv_imul C.1 C.2.1 dX1_cellBeside_86 ?_
  refine lv_iload C.1 C.2.1 dX1_cellBeside_87 (lv_at hl 1 rfl) ?_
  refine lv_iadd C.1 C.2.1 dX1_cellBeside_89 ?_
  refine lv_goto (tgt := 94) C.1 C.2.1 dX1_cellBeside_90 (by decide) ?_
  exact ea_iret C hw hf dX1_cellBeside_94
set_option maxHeartbeats 4000000 in
set_option maxRecDepth 20000 in
theorem wX1_cellBeside_65 (C : ea_C p s m args meth cd cX1_cellBeside 7 (some .int) RX1) (hX : ea_X ids) (ho0 : ea_ok ids a0 1) : ∀ (x2 : Int32) (x3 : Int32) (x4 : Int32) (x5 : Int32) (t0 : Int32) (M : eM) (H : Heap) (locs : List Loc) (ls : Array Slot), fX1_cellBeside_65 a0 x2 x3 x4 x5 t0 M = some res → ea_w E ids M s H locs → lv_has ls 7 [(0, .ref (E.1 a0)), (2, .int x2), (3, .int x3), (4, .int x4), (5, .int x5)] → W p l e (ea_rm 1 22) s m args below meth cd H locs 0 0 (MQ below (ea_Qi E ids res) args s 0 0 (ea_Ad E ids)) (F0 m 65 ls [.int t0]) := by
  intro x2 x3 x4 x5 t0 M H locs ls hf  hw hl
  replace hf := (fX1_cellBeside_65.eq_1 ..).symm.trans hf
  refine lv_istore (lv' := [(6, .int t0), (0, .ref (E.1 a0)), (2, .int x2), (3, .int x3), (4, .int x4), (5, .int x5)]) C.1 C.2.1 dX1_cellBeside_65 hl (by decide) rfl (fun ls hl => ?_)
  refine lv_iload C.1 C.2.1 dX1_cellBeside_67 (lv_at hl 0 rfl) ?_
  refine lv_if_eq (tgt := 93) C.1 C.2.1 dX1_cellBeside_69 (by decide) (fun hc1 => ?_) (fun hc1 => ?_)
  · replace hf := ea_if_t hc1 hf
    refine lv_iconst (v := (-1 : Int32)) C.1 C.2.1 dX1_cellBeside_93 (by decide) ?_
    exact ea_iret C hw hf dX1_cellBeside_94
  · replace hf := ea_if_f hc1 hf
    refine lv_iload_n C.1 C.2.1 dX1_cellBeside_72 rfl (lv_at hl 2 rfl) ?_
    refine lv_if_ne (tgt := 80) C.1 C.2.1 dX1_cellBeside_73 (by decide) (fun hc2 => ?_) (fun hc2 => ?_)
    · replace hf := ea_if_f hc2 hf
      exact wX1_cellBeside_80 C hX ho0 _ _ _ _ _ _ hf hw (lv_sub hl [1, 4, 5] rfl)
    · replace hf := ea_if_t hc2 hf
      refine lv_iload_n C.1 C.2.1 dX1_cellBeside_76 rfl (lv_at hl 3 rfl) ?_
      refine lv_if_eq (tgt := 93) C.1 C.2.1 dX1_cellBeside_77 (by decide) (fun hc3 => ?_) (fun hc3 => ?_)
      · replace hf := ea_if_t hc3 hf
        refine lv_iconst (v := (-1 : Int32)) C.1 C.2.1 dX1_cellBeside_93 (by decide) ?_
        exact ea_iret C hw hf dX1_cellBeside_94
      · replace hf := ea_if_f hc3 hf
        exact wX1_cellBeside_80 C hX ho0 _ _ _ _ _ _ hf hw (lv_sub hl [1, 4, 5] rfl)
set_option maxHeartbeats 4000000 in
set_option maxRecDepth 20000 in
theorem wX1_cellBeside_64 (C : ea_C p s m args meth cd cX1_cellBeside 7 (some .int) RX1) (hX : ea_X ids) (ho0 : ea_ok ids a0 1) : ∀ (x2 : Int32) (x3 : Int32) (x4 : Int32) (x5 : Int32) (M : eM) (H : Heap) (locs : List Loc) (ls : Array Slot), fX1_cellBeside_64 a0 x2 x3 x4 x5 M = some res → ea_w E ids M s H locs → lv_has ls 7 [(0, .ref (E.1 a0)), (2, .int x2), (3, .int x3), (4, .int x4), (5, .int x5)] → W p l e (ea_rm 1 22) s m args below meth cd H locs 0 0 (MQ below (ea_Qi E ids res) args s 0 0 (ea_Ad E ids)) (F0 m 64 ls []) := by
  intro x2 x3 x4 x5 M H locs ls hf  hw hl
  replace hf := (fX1_cellBeside_64.eq_1 ..).symm.trans hf
  refine lv_iconst (v := 0) C.1 C.2.1 dX1_cellBeside_64 (by decide) ?_
  exact wX1_cellBeside_65 C hX ho0 _ _ _ _ _ _ _ _ _ hf hw (lv_sub hl [0, 1, 2, 3, 4] rfl)
set_option maxHeartbeats 4000000 in
set_option maxRecDepth 20000 in
theorem wX1_cellBeside_26 (C : ea_C p s m args meth cd cX1_cellBeside 7 (some .int) RX1) (hX : ea_X ids) (ho0 : ea_ok ids a0 1) : ∀ (x2 : Int32) (x3 : Int32) (x4 : Int32) (t0 : Int32) (M : eM) (H : Heap) (locs : List Loc) (ls : Array Slot), fX1_cellBeside_26 a0 x2 x3 x4 t0 M = some res → ea_w E ids M s H locs → lv_has ls 7 [(0, .ref (E.1 a0)), (2, .int x2), (3, .int x3), (4, .int x4)] → W p l e (ea_rm 1 22) s m args below meth cd H locs 0 0 (MQ below (ea_Qi E ids res) args s 0 0 (ea_Ad E ids)) (F0 m 26 ls [.int t0]) := by
  intro x2 x3 x4 t0 M H locs ls hf  hw hl
  replace hf := (fX1_cellBeside_26.eq_1 ..).symm.trans hf
  refine lv_iload_n C.1 C.2.1 dX1_cellBeside_26 rfl (lv_at hl 2 rfl) ?_
  refine lv_iadd C.1 C.2.1 dX1_cellBeside_27 ?_
  refine lv_istore (lv' := [(5, .int (t0 + x3)), (0, .ref (E.1 a0)), (2, .int x2), (3, .int x3), (4, .int x4)]) C.1 C.2.1 dX1_cellBeside_28 hl (by decide) rfl (fun ls hl => ?_)
  refine lv_iload C.1 C.2.1 dX1_cellBeside_30 (lv_at hl 4 rfl) ?_
  refine lv_iconst (v := 0) C.1 C.2.1 dX1_cellBeside_32 (by decide) ?_
  refine lv_aload_n C.1 C.2.1 dX1_cellBeside_33 rfl (lv_at hl 1 rfl) ?_
  refine gf_X1_43 C hw ho0 dX1_cellBeside_34 ?_
  refine lv_iconst (v := 1) C.1 C.2.1 dX1_cellBeside_37 (by decide) ?_
  refine lv_isub C.1 C.2.1 dX1_cellBeside_38 ?_
  obtain ⟨r2, M3, he1, hf⟩ := ea_ci_s hf
  refine ea_runi2 hw (cl_X1_81 C hw (As := [.int x4, .int (0 : Int32), .int ((M.1 a0 0) - (1 : Int32))]) (rest := []) (mX10_isWithin (l := l) (E := E) (ids := ids) hX he1) (by decide) rfl hl.1 rfl (Nat.le_of_ble_eq_true rfl) dX1_cellBeside_39 ⟨Nat.le_refl _, Nat.le_refl _⟩) (fun H locs hw => ?_)
  refine lv_if_eq (tgt := 64) C.1 C.2.1 dX1_cellBeside_42 (by decide) (fun hc4 => ?_) (fun hc4 => ?_)
  · replace hf := ea_if_t hc4 hf
    exact wX1_cellBeside_64 C hX ho0 _ _ _ _ _ _ _ _ hf hw (lv_sub hl [1, 2, 3, 4, 0] rfl)
  · replace hf := ea_if_f hc4 hf
    refine lv_iload C.1 C.2.1 dX1_cellBeside_45 (lv_at hl 0 rfl) ?_
    refine lv_iconst (v := 0) C.1 C.2.1 dX1_cellBeside_47 (by decide) ?_
    refine lv_aload_n C.1 C.2.1 dX1_cellBeside_48 rfl (lv_at hl 1 rfl) ?_
    refine gf_X1_47 C hw ho0 dX1_cellBeside_49 ?_
    refine lv_iconst (v := 1) C.1 C.2.1 dX1_cellBeside_52 (by decide) ?_
    refine lv_isub C.1 C.2.1 dX1_cellBeside_53 ?_
    obtain ⟨r6, M7, he5, hf⟩ := ea_ci_s hf
    refine ea_runi2 hw (cl_X1_81 C hw (As := [.int (t0 + x3), .int (0 : Int32), .int ((M3.1 a0 1) - (1 : Int32))]) (rest := []) (mX10_isWithin (l := l) (E := E) (ids := ids) hX he5) (by decide) rfl hl.1 rfl (Nat.le_of_ble_eq_true rfl) dX1_cellBeside_54 ⟨Nat.le_refl _, Nat.le_refl _⟩) (fun H locs hw => ?_)
    refine lv_if_eq (tgt := 64) C.1 C.2.1 dX1_cellBeside_57 (by decide) (fun hc8 => ?_) (fun hc8 => ?_)
    · replace hf := ea_if_t hc8 hf
      exact wX1_cellBeside_64 C hX ho0 _ _ _ _ _ _ _ _ hf hw (lv_sub hl [1, 2, 3, 4, 0] rfl)
    · replace hf := ea_if_f hc8 hf
      refine lv_iconst (v := 1) C.1 C.2.1 dX1_cellBeside_60 (by decide) ?_
      refine lv_goto (tgt := 65) C.1 C.2.1 dX1_cellBeside_61 (by decide) ?_
      exact wX1_cellBeside_65 C hX ho0 _ _ _ _ _ _ _ _ _ hf hw (lv_sub hl [1, 2, 3, 4, 0] rfl)
set_option maxHeartbeats 4000000 in
set_option maxRecDepth 20000 in
theorem wX1_cellBeside_0 (C : ea_C p s m args meth cd cX1_cellBeside 7 (some .int) RX1) (hX : ea_X ids) (ho0 : ea_ok ids a0 1) : ∀ (x1 : Int32) (x2 : Int32) (x3 : Int32) (M : eM) (H : Heap) (locs : List Loc) (ls : Array Slot), fX1_cellBeside_0 a0 x1 x2 x3 M = some res → ea_w E ids M s H locs → lv_has ls 7 [(0, .ref (E.1 a0)), (1, .int x1), (2, .int x2), (3, .int x3)] → W p l e (ea_rm 1 22) s m args below meth cd H locs 0 0 (MQ below (ea_Qi E ids res) args s 0 0 (ea_Ad E ids)) (F0 m 0 ls []) := by
  intro x1 x2 x3 M H locs ls hf  hw hl
  replace hf := (fX1_cellBeside_0.eq_1 ..).symm.trans hf
  refine lv_aload_n C.1 C.2.1 dX1_cellBeside_0 rfl (lv_at hl 0 rfl) ?_
  refine lv_iload_n C.1 C.2.1 dX1_cellBeside_1 rfl (lv_at hl 1 rfl) ?_
  obtain ⟨r2, M3, he1, hf⟩ := ea_ci_s hf
  refine ea_runi2 hw (cl_X1_77 C hw ho0 (As := [.int x1]) (rest := []) (mX1_columnOf (l := l) (E := E) (ids := ids) hX ho0 he1) (by decide) rfl hl.1 rfl (Nat.le_of_ble_eq_true rfl) dX1_cellBeside_2 ⟨Nat.le_refl _, Nat.le_refl _⟩) (fun H locs hw => ?_)
  refine lv_iload_n C.1 C.2.1 dX1_cellBeside_5 rfl (lv_at hl 2 rfl) ?_
  refine lv_iadd C.1 C.2.1 dX1_cellBeside_6 ?_
  refine lv_istore (lv' := [(4, .int (r2 + x2)), (0, .ref (E.1 a0)), (1, .int x1), (2, .int x2), (3, .int x3)]) C.1 C.2.1 dX1_cellBeside_7 hl (by decide) rfl (fun ls hl => ?_)
  refine lv_aload_n C.1 C.2.1 dX1_cellBeside_9 rfl (lv_at hl 1 rfl) ?_
  refine gf_X1_43 C hw ho0 dX1_cellBeside_10 ?_
  refine lv_if_le (tgt := 25) C.1 C.2.1 dX1_cellBeside_13 (by decide) (fun hc4 => ?_) (fun hc4 => ?_)
  · replace hf := ea_if_t hc4 hf
    refine lv_iconst (v := 0) C.1 C.2.1 dX1_cellBeside_25 (by decide) ?_
    exact wX1_cellBeside_26 C hX ho0 _ _ _ _ _ _ _ _ hf hw (lv_sub hl [1, 3, 4, 0] rfl)
  · replace hf := ea_if_f hc4 hf
    refine lv_iload_n C.1 C.2.1 dX1_cellBeside_16 rfl (lv_at hl 2 rfl) ?_
    refine lv_aload_n C.1 C.2.1 dX1_cellBeside_17 rfl (lv_at hl 1 rfl) ?_
    refine gf_X1_43 C hw ho0 dX1_cellBeside_18 ?_
    obtain ⟨hc5, hf⟩ := ea_ck_s hf
    refine lv_idiv C.1 C.2.1 dX1_cellBeside_21 (ea_nz_s hc5) ?_
    refine lv_goto (tgt := 26) C.1 C.2.1 dX1_cellBeside_22 (by decide) ?_
    exact wX1_cellBeside_26 C hX ho0 _ _ _ _ _ _ _ _ hf hw (lv_sub hl [1, 3, 4, 0] rfl)
set_option maxHeartbeats 4000000 in
set_option maxRecDepth 20000 in
theorem mX1_cellBeside {l : Launch} {E : eE} {ids : List Nat} (hX : ea_X ids) {a0 : Nat} {x1 : Int32} {x2 : Int32} {x3 : Int32} (ho0 : ea_ok ids a0 1) {M : eM} {res : Int32 × eM} (hf : fX1_cellBeside a0 x1 x2 x3 M = some res) : ea_Mi l yX1_cellBeside cX1_cellBeside 7 (some .int) 1 22 E ids [.ref (E.1 a0), .int x1, .int x2, .int x3] M res := by
  refine ea_goi (by decide) (Nat.le_of_ble_eq_true rfl) wc_X1_cellBeside ?_
  intro p e s m below meth cd ls C hw hl
  exact wX1_cellBeside_0 C hX ho0 _ _ _ _ _ _ _ hf hw hl
end SX1_cellBeside
