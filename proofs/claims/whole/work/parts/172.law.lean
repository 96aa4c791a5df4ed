/-! THE CLAIM OUT OF ONE WALK OF THE LAW'S BODY. Your part is whole_start (and what it stands on); all else here is the same for every law, but numbers. -/
def R_law : String := "ClothBackLaw"
def lw_P (b : Addr) (xs : List Int32) (args : Array Value) (s : State) : Prop := args = #[.ref b] ∧ s.IntsAt b xs ∧ xs.length ≤ 3584 ∧ (Jvm.Cond.and given_1 narrow_1).before args s = true
def lw_Q (_ : Array Value) (s : State) (o : Outcome) (t : State) : Prop := o = .returned (some (.int 1)) ∧ Framed s o t [] 600000 7302250
def lw_Z (below : List Frame) (a : Array Value) (s : State) : State → Prop := fun t => ∃ o, t.status = .running ∧ Ended t below o ∧ lw_Q a s o t
/-- the law's own end, with 1 on the stack, nothing written that was there before, its room as the claim has it -/
theorem lw_ret {p : Program} {l : Launch} {e : Env} {s : State} {m : MethodId} {below : List Frame} {meth : Method} {c : Code} {b : Nat} (hx : p.tables.exec = Jvm.exec) (hb : c.code = code) (hr : meth.sig.returnType = ret) (hlocks : meth.locks = false) {pc : Nat} {H : Heap} {ls : Array Slot} (hdg : decode code pc = .ok (.ireturn, 1)) : W p l e room_1 s m #[Value.ref b] below meth c H [] 600000 7302250 (lw_Z below #[Value.ref b] s) (F0 m pc ls [.int 1]) := by
  intro T hT X
  obtain ⟨fs, hret, hrun, hended, hW, hframe⟩ := X.leave (v := some (.int 1)) (hlocks := hlocks) (fun h => by rw [hr] at h; cases h)
  have hmeth' : T.vm.method? m = some meth := X.method'
  refine ⟨T.setFrames fs, ?_, .returned (some (.int 1)), hrun, hended, rfl, ⟨_, rfl⟩, hW, hframe⟩
  jvm_step X.here [X.here.top, hx, hb, hdg, hmeth', hr, ret, narrow_b1]
  (try refine ⟨rfl, ?_⟩); (try refine ⟨rfl, ?_⟩)
  first | (intro acts; rw [hret _ acts rfl rfl rfl]) | rw [hret _ _ rfl rfl rfl]
  exact Steps.refl _
/-- what holds at the law's entry: the machine, the code, the tables' words (any of lw_tbl by 'hts w (by decide +kernel)'), the script of L ints xs at the cell b, what the Statement gives of the start (any of its parts by flat_of_before) -/
def lw_At (p : Program) (s : State) (m : MethodId) (meth : Method) (c : Code) (b L : Nat) (xs : Nat → Int32) : Prop :=
  p.tables.exec = Jvm.exec ∧ c.code = code ∧ meth.sig.returnType = ret ∧ c.maxLocals = 4 ∧ s.vm.findClass R_law = some m.cls ∧ (∀ w ∈ lw_tbl, w.before #[Value.ref b] s = true) ∧ va_X b L xs s s.heap ∧ b < s.heap.size ∧ meth.locks = false ∧ (Jvm.Cond.and given_1 narrow_1).before #[Value.ref b] s = true
theorem ea_lim {L i : Nat} (hL : L ≤ 4000) (hi : i ≤ 4000) : (Int32.ofNat L - 7 < nI i) ↔ L < i + 7 := by
  have e7 : (7 : Int32) = nI 7 := by decide
  rw [e7, Int32.lt_iff_toInt_lt, nI_toInt (by omega)]
  have h := pk_sub_toInt (a := L) (b := 7) (by omega) (by omega)
  rw [show Int32.ofNat L = nI L from rfl, h]
  omega
section LAWL
variable {p : Program} {l : Launch} {e : Env} {s : State} {m : MethodId} {below : List Frame} {meth : Method} {c : Code} {E : eE} {ids : List Nat} {cells slots b L : Nat} {xs : Nat → Int32} {Inv : eM → Prop}
set_option maxHeartbeats 8000000 in
set_option maxRecDepth 100000 in
theorem law_loop (C : ea_C p s m #[Value.ref b] meth c code 4 ret RL) (hlocks : meth.locks = false) (hL : L ≤ 3584) (hX : ea_X ids) (hY : ea_Y ids) (hX0 : va_X b L xs s s.heap) (hbl : b < s.heap.size) (hbA : ¬ ea_Ad E ids b) (hAd : ∀ q, ea_Ad E ids q → s.heap.size ≤ q) (hcs : cells ≤ 600000 ∧ slots ≤ 7302250) (HS : ea_steps Inv) :
    ∀ (n i : Nat) (M : eM) (H : Heap) (locs : List Loc) (ls : Array Slot), L + 1 ≤ i + n → i ≤ 4000 → Inv M → ea_w E ids M s H locs → lv_has ls 4 [(0, .ref b), (1, .ref (E.1 0)), (2, .ref (E.1 100)), (3, .int (nI i))] → W p l e room_1 s m #[Value.ref b] below meth c H locs cells slots (lw_Z below #[Value.ref b] s) (F0 m 18 ls []) := by
  have hend : ∀ (M : eM) (H : Heap) (locs : List Loc) (ls : Array Slot), ea_w E ids M s H locs → W p l e room_1 s m #[Value.ref b] below meth c H locs cells slots (lw_Z below #[Value.ref b] s) (F0 m 1690 ls []) := by
    intro M H locs ls hw
    refine lv_iconst (v := 1) C.1 C.2.1 dL_law_1690 (by decide) ?_
    refine va_forget (fun q hq => hAd _ (hw.2.2.2.1.2.2 q hq)) ?_
    refine W.widen (k := 600000) (n := 7302250) hcs.1 hcs.2 ?_
    exact lw_ret C.1 C.2.1 C.2.2.2.2.2.1 hlocks dL_law_1691
  intro n
  induction n with
  | zero =>
    intro i M H locs ls h1 h2 hM hw hl
    have hlt : L < i + 7 := by omega
    refine lv_iload_n C.1 C.2.1 dL_law_18 rfl (lv_at hl 3 rfl) ?_
    refine lv_aload_n C.1 C.2.1 dL_law_19 rfl (lv_at hl 0 rfl) ?_
    refine va_slen C.1 C.2.1 hX0 hbl hbA hw.2.2.2.1 dL_law_20 ?_
    refine lv_bipush (v := 7) C.1 C.2.1 dL_law_21 (by decide) ?_
    refine lv_isub C.1 C.2.1 dL_law_23 ?_
    exact lv_icmp_gt (tgt := 1690) C.1 C.2.1 dL_law_24 (by decide) (fun _ => hend M H locs ls hw) (fun q => absurd ((ea_lim (by omega) (by omega)).mpr hlt) q)
  | succ n ih =>
    intro i M H locs ls h1 h2 hM hw hl
    refine lv_iload_n C.1 C.2.1 dL_law_18 rfl (lv_at hl 3 rfl) ?_
    refine lv_aload_n C.1 C.2.1 dL_law_19 rfl (lv_at hl 0 rfl) ?_
    refine va_slen C.1 C.2.1 hX0 hbl hbA hw.2.2.2.1 dL_law_20 ?_
    refine lv_bipush (v := 7) C.1 C.2.1 dL_law_21 (by decide) ?_
    refine lv_isub C.1 C.2.1 dL_law_23 ?_
    refine lv_icmp_gt (tgt := 1690) C.1 C.2.1 dL_law_24 (by decide) (fun _ => hend M H locs ls hw) (fun hc => ?_)
    have hlt : i + 7 ≤ L := by
      rcases Nat.lt_or_ge L (i + 7) with q | q
      · exact absurd ((ea_lim (by omega) (by omega)).mpr q) hc
      · exact q
    have hin : ∀ k : Int32, (1 ≤ k ∧ k ≤ 6) → vp_in (nI i + k) L := by
      intro k hk
      have h0 := Int32.le_iff_toInt_le.mp hk.1
      have h6 := Int32.le_iff_toInt_le.mp hk.2
      obtain ⟨j, hj, rfl⟩ := nI_of (x := k) (by rw [Int32.not_lt, Int32.le_iff_toInt_le]; have : (1 : Int32).toInt = 1 := by decide
                                                have h00 : (0 : Int32).toInt = 0 := by decide
                                                omega)
      rw [nI_toInt hj] at h0 h6
      have e1 : (1 : Int32).toInt = 1 := by decide
      have e6 : (6 : Int32).toInt = 6 := by decide
      rw [nI_add]
      exact vp_in_nI (by omega) (by omega)
    refine lv_aload_n C.1 C.2.1 dL_law_27 rfl (lv_at hl 0 rfl) ?_
    refine lv_iload_n C.1 C.2.1 dL_law_28 rfl (lv_at hl 3 rfl) ?_
    refine va_sld C.1 C.2.1 hX0 hbl hbA hw.2.2.2.1 (vp_in_nI (by omega) (by omega)) dL_law_29 ?_
    refine lv_bipush (v := 31) C.1 C.2.1 dL_law_30 (by decide) ?_
    refine lv_iand C.1 C.2.1 dL_law_32 ?_
    obtain ⟨j, hj, ej⟩ := pk_andE (xs (nI i).toNatClampNeg) (m := 31) 5 (by decide)
    rw [ej]
    have kk : ∀ (M : eM) (H : Heap) (locs : List Loc) (ls : Array Slot), Inv M → ea_w E ids M s H locs → lv_has ls 4 [(0, .ref b), (1, .ref (E.1 0)), (2, .ref (E.1 100)), (3, .int (nI i))] → W p l e room_1 s m #[Value.ref b] below meth c H locs cells slots (lw_Z below #[Value.ref b] s) (F0 m 1684 ls []) := by
      intro M H locs ls hM hw hl
      refine lv_iinc (v := nI (i + 7)) (lv' := [(3, .int (nI (i + 7))), (0, .ref b), (1, .ref (E.1 0)), (2, .ref (E.1 100))]) C.1 C.2.1 dL_law_1684 hl (k := 3) rfl (nI_add i 7) (by decide) rfl (fun ls hl => ?_)
      refine lv_goto (tgt := 18) C.1 C.2.1 dL_law_1687 (by decide) ?_
      exact ih (i + 7) M H locs ls (by omega) (by omega) hM hw (lv_sub hl [1, 2, 3, 0] rfl)
    have hd : j = 0 ∨ j = 1 ∨ j = 2 ∨ j = 3 ∨ j = 4 ∨ j = 5 ∨ j = 6 ∨ j = 7 ∨ j = 8 ∨ j = 9 ∨ j = 10 ∨ j = 11 ∨ j = 12 ∨ j = 13 ∨ j = 14 ∨ j = 15 ∨ j = 16 ∨ j = 17 ∨ j = 18 ∨ j = 19 ∨ j = 20 ∨ j = 21 ∨ j = 22 ∨ j = 23 ∨ j = 24 ∨ j = 25 ∨ j = 26 ∨ j = 27 ∨ j = 28 ∨ j = 29 ∨ j = 30 ∨ j = 31 := by omega
    unfold ea_steps at HS
    rcases hd with rfl | rfl | rfl | rfl | rfl | rfl | rfl | rfl | rfl | rfl | rfl | rfl | rfl | rfl | rfl | rfl | rfl | rfl | rfl | rfl | rfl | rfl | rfl | rfl | rfl | rfl | rfl | rfl | rfl | rfl | rfl | rfl
    · refine lv_tableIn (tgt := 176) C.1 C.2.1 dL_law_33 (by decide) (by decide) (by rfl) (by decide) ?_
      exact law_0 C hX hY hX0 hbl hbA hcs hin hw hl HS.1 hM kk
    · refine lv_tableIn (tgt := 239) C.1 C.2.1 dL_law_33 (by decide) (by decide) (by rfl) (by decide) ?_
      exact law_1 C hX hY hX0 hbl hbA hcs hin hw hl HS.2.1 hM kk
    · refine lv_tableIn (tgt := 262) C.1 C.2.1 dL_law_33 (by decide) (by decide) (by rfl) (by decide) ?_
      exact law_2 C hX hY hX0 hbl hbA hcs hin hw hl HS.2.2.1 hM kk
    · refine lv_tableIn (tgt := 275) C.1 C.2.1 dL_law_33 (by decide) (by decide) (by rfl) (by decide) ?_
      exact law_3 C hX hY hX0 hbl hbA hcs hin hw hl HS.2.2.2.1 hM kk
    · refine lv_tableIn (tgt := 298) C.1 C.2.1 dL_law_33 (by decide) (by decide) (by rfl) (by decide) ?_
      exact law_4 C hX hY hX0 hbl hbA hcs hin hw hl HS.2.2.2.2.1 hM kk
    · refine lv_tableIn (tgt := 321) C.1 C.2.1 dL_law_33 (by decide) (by decide) (by rfl) (by decide) ?_
      exact law_5 C hX hY hX0 hbl hbA hcs hin hw hl HS.2.2.2.2.2.1 hM kk
    · refine lv_tableIn (tgt := 354) C.1 C.2.1 dL_law_33 (by decide) (by decide) (by rfl) (by decide) ?_
      exact law_6 C hX hY hX0 hbl hbA hcs hin hw hl HS.2.2.2.2.2.2.1 hM kk
    · refine lv_tableIn (tgt := 407) C.1 C.2.1 dL_law_33 (by decide) (by decide) (by rfl) (by decide) ?_
      exact law_7 C hX hY hX0 hbl hbA hcs hin hw hl HS.2.2.2.2.2.2.2.1 hM kk
    · refine lv_tableIn (tgt := 460) C.1 C.2.1 dL_law_33 (by decide) (by decide) (by rfl) (by decide) ?_
      exact law_8 C hX hY hX0 hbl hbA hcs hin hw hl HS.2.2.2.2.2.2.2.2.1 hM kk
    · refine lv_tableIn (tgt := 503) C.1 C.2.1 dL_law_33 (by decide) (by decide) (by rfl) (by decide) ?_
      exact law_9 C hX hY hX0 hbl hbA hcs hin hw hl HS.2.2.2.2.2.2.2.2.2.1 hM kk
    · refine lv_tableIn (tgt := 578) C.1 C.2.1 dL_law_33 (by decide) (by decide) (by rfl) (by decide) ?_
      exact law_10 C hX hY hX0 hbl hbA hcs hin hw hl HS.2.2.2.2.2.2.2.2.2.2.1 hM kk
    · refine lv_tableIn (tgt := 621) C.1 C.2.1 dL_law_33 (by decide) (by decide) (by rfl) (by decide) ?_
      exact law_11 C hX hY hX0 hbl hbA hcs hin hw hl HS.2.2.2.2.2.2.2.2.2.2.2.1 hM kk
    · refine lv_tableIn (tgt := 696) C.1 C.2.1 dL_law_33 (by decide) (by decide) (by rfl) (by decide) ?_
      exact law_12 C hX hY hX0 hbl hbA hcs hin hw hl HS.2.2.2.2.2.2.2.2.2.2.2.2.1 hM kk
    · refine lv_tableIn (tgt := 759) C.1 C.2.1 dL_law_33 (by decide) (by decide) (by rfl) (by decide) ?_
      exact law_13 C hX hY hX0 hbl hbA hcs hin hw hl HS.2.2.2.2.2.2.2.2.2.2.2.2.2.1 hM kk
    · refine lv_tableIn (tgt := 812) C.1 C.2.1 dL_law_33 (by decide) (by decide) (by rfl) (by decide) ?_
      exact law_14 C hX hY hX0 hbl hbA hcs hin hw hl HS.2.2.2.2.2.2.2.2.2.2.2.2.2.2.1 hM kk
    · refine lv_tableIn (tgt := 835) C.1 C.2.1 dL_law_33 (by decide) (by decide) (by rfl) (by decide) ?_
      exact law_15 C hX hY hX0 hbl hbA hcs hin hw hl HS.2.2.2.2.2.2.2.2.2.2.2.2.2.2.2.1 hM kk
    · refine lv_tableIn (tgt := 858) C.1 C.2.1 dL_law_33 (by decide) (by decide) (by rfl) (by decide) ?_
      exact law_16 C hX hY hX0 hbl hbA hcs hin hw hl HS.2.2.2.2.2.2.2.2.2.2.2.2.2.2.2.2.1 hM kk
    · refine lv_tableIn (tgt := 911) C.1 C.2.1 dL_law_33 (by decide) (by decide) (by rfl) (by decide) ?_
      exact law_17 C hX hY hX0 hbl hbA hcs hin hw hl HS.2.2.2.2.2.2.2.2.2.2.2.2.2.2.2.2.2.1 hM kk
    · refine lv_tableIn (tgt := 974) C.1 C.2.1 dL_law_33 (by decide) (by decide) (by rfl) (by decide) ?_
      exact law_18 C hX hY hX0 hbl hbA hcs hin hw hl HS.2.2.2.2.2.2.2.2.2.2.2.2.2.2.2.2.2.2.1 hM kk
    · refine lv_tableIn (tgt := 1053) C.1 C.2.1 dL_law_33 (by decide) (by decide) (by rfl) (by decide) ?_
      exact law_19 C hX hY hX0 hbl hbA hcs hin hw hl HS.2.2.2.2.2.2.2.2.2.2.2.2.2.2.2.2.2.2.2.1 hM kk
    · refine lv_tableIn (tgt := 1116) C.1 C.2.1 dL_law_33 (by decide) (by decide) (by rfl) (by decide) ?_
      exact law_20 C hX hY hX0 hbl hbA hcs hin hw hl HS.2.2.2.2.2.2.2.2.2.2.2.2.2.2.2.2.2.2.2.2.1 hM kk
    · refine lv_tableIn (tgt := 1159) C.1 C.2.1 dL_law_33 (by decide) (by decide) (by rfl) (by decide) ?_
      exact law_21 C hX hY hX0 hbl hbA hcs hin hw hl HS.2.2.2.2.2.2.2.2.2.2.2.2.2.2.2.2.2.2.2.2.2.1 hM kk
    · refine lv_tableIn (tgt := 1238) C.1 C.2.1 dL_law_33 (by decide) (by decide) (by rfl) (by decide) ?_
      exact law_22 C hX hY hX0 hbl hbA hcs hin hw hl HS.2.2.2.2.2.2.2.2.2.2.2.2.2.2.2.2.2.2.2.2.2.2.1 hM kk
    · refine lv_tableIn (tgt := 1261) C.1 C.2.1 dL_law_33 (by decide) (by decide) (by rfl) (by decide) ?_
      exact law_23 C hX hY hX0 hbl hbA hcs hin hw hl HS.2.2.2.2.2.2.2.2.2.2.2.2.2.2.2.2.2.2.2.2.2.2.2.1 hM kk
    · refine lv_tableIn (tgt := 1340) C.1 C.2.1 dL_law_33 (by decide) (by decide) (by rfl) (by decide) ?_
      exact law_24 C hX hY hX0 hbl hbA hcs hin hw hl HS.2.2.2.2.2.2.2.2.2.2.2.2.2.2.2.2.2.2.2.2.2.2.2.2.1 hM kk
    · refine lv_tableIn (tgt := 1373) C.1 C.2.1 dL_law_33 (by decide) (by decide) (by rfl) (by decide) ?_
      exact law_25 C hX hY hX0 hbl hbA hcs hin hw hl HS.2.2.2.2.2.2.2.2.2.2.2.2.2.2.2.2.2.2.2.2.2.2.2.2.2.1 hM kk
    · refine lv_tableIn (tgt := 1406) C.1 C.2.1 dL_law_33 (by decide) (by decide) (by rfl) (by decide) ?_
      exact law_26 C hX hY hX0 hbl hbA hcs hin hw hl HS.2.2.2.2.2.2.2.2.2.2.2.2.2.2.2.2.2.2.2.2.2.2.2.2.2.2.1 hM kk
    · refine lv_tableIn (tgt := 1459) C.1 C.2.1 dL_law_33 (by decide) (by decide) (by rfl) (by decide) ?_
      exact law_27 C hX hY hX0 hbl hbA hcs hin hw hl HS.2.2.2.2.2.2.2.2.2.2.2.2.2.2.2.2.2.2.2.2.2.2.2.2.2.2.2.1 hM kk
    · refine lv_tableIn (tgt := 1522) C.1 C.2.1 dL_law_33 (by decide) (by decide) (by rfl) (by decide) ?_
      exact law_28 C hX hY hX0 hbl hbA hcs hin hw hl HS.2.2.2.2.2.2.2.2.2.2.2.2.2.2.2.2.2.2.2.2.2.2.2.2.2.2.2.2.1 hM kk
    · refine lv_tableIn (tgt := 1575) C.1 C.2.1 dL_law_33 (by decide) (by decide) (by rfl) (by decide) ?_
      exact law_29 C hX hY hX0 hbl hbA hcs hin hw hl HS.2.2.2.2.2.2.2.2.2.2.2.2.2.2.2.2.2.2.2.2.2.2.2.2.2.2.2.2.2.1 hM kk
    · refine lv_tableIn (tgt := 1618) C.1 C.2.1 dL_law_33 (by decide) (by decide) (by rfl) (by decide) ?_
      exact law_30 C hX hY hX0 hbl hbA hcs hin hw hl HS.2.2.2.2.2.2.2.2.2.2.2.2.2.2.2.2.2.2.2.2.2.2.2.2.2.2.2.2.2.2.1 hM kk
    · refine lv_tableIn (tgt := 1661) C.1 C.2.1 dL_law_33 (by decide) (by decide) (by rfl) (by decide) ?_
      exact law_31 C hX hY hX0 hbl hbA hcs hin hw hl HS.2.2.2.2.2.2.2.2.2.2.2.2.2.2.2.2.2.2.2.2.2.2.2.2.2.2.2.2.2.2.2 hM kk
end LAWL
