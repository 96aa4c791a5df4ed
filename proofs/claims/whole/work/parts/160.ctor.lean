theorem wo_inst : (Cond.instanceMethod objectInit) ∈ ea_tbl := ea_inT 120 (by decide +kernel) rfl
theorem wo_code : (Cond.code objectInit ⟨#[0xb1]⟩ 1 none) ∈ ea_tbl := ea_inT 121 (by decide +kernel) rfl
theorem wa_int : (Cond.arrayClass .int) ∈ ea_tbl := ea_inT 245 (by decide +kernel) rfl
theorem wa_long : (Cond.arrayClass .long) ∈ ea_tbl := ea_inT 246 (by decide +kernel) rfl
theorem wa_byte : (Cond.arrayClass .byte) ∈ ea_tbl := ea_inT 138 (by decide +kernel) rfl
theorem wa_boolean : (Cond.arrayClass .boolean) ∈ ea_tbl := ea_inT 1340 (by decide +kernel) rfl
theorem wa_T : lw_tbl[348]? = some (Cond.arrayOver (.object "ClothBack$Telling")) := by decide +kernel
def ea_0 : eM := (fun _ _ => 0, fun _ _ => 0, fun _ _ => 0)
def eb_E (u : Nat → Nat) (b : Nat) (E : eE) : eE := (fun c => u (c - b), E.2)
def eb_ad (q : List Nat) : Nat → Nat := fun j => q.getD j 0
def eb_N (U : State) : Prop := va_Nw (.methodLinkNest RX10 9 yX7_init "ClothBack") U ∧ va_Nw (.methodLinkNest RX10 43 yX8_init "ClothBack") U ∧ va_Nw (.methodLinkNest RX10 66 yX4_init "ClothBack") U ∧ va_Nw (.methodLinkNest RX10 73 yX6_init "ClothBack") U ∧ va_Nw (.methodLinkNest RX10 80 yX0_init "ClothBack") U ∧ va_AO "ClothBack$Telling" U
theorem eb_N.warm {s U : State} (h : eb_N s) (hW : s.WarmedH U.vm) : eb_N U := ⟨h.1.warmM hW, h.2.1.warmM hW, h.2.2.1.warmM hW, h.2.2.2.1.warmM hW, h.2.2.2.2.1.warmM hW, va_AO.moved hW.alike h.2.2.2.2.2⟩
theorem eb_N.call {U V : State} (h : eb_N U) (hvm : V.vm = U.vm) : eb_N V := ⟨h.1.same rfl hvm.symm, h.2.1.same rfl hvm.symm, h.2.2.1.same rfl hvm.symm, h.2.2.2.1.same rfl hvm.symm, h.2.2.2.2.1.same rfl hvm.symm, va_AO.moved (by rw [hvm]; exact Vm.Alike.refl _) h.2.2.2.2.2⟩
theorem ea_F.narrow {E : eE} {A B : Nat → Prop} {U : State} {H : Heap} (h : ea_F E A U H) (hAB : ∀ q, B q → A q) : ea_F E B U H := by
  obtain ⟨⟨n1, n2⟩, ⟨z1, t1⟩, ⟨z2, t2⟩, ⟨z3, t3⟩, ⟨z4, t4⟩, ⟨z5, z6⟩, s1, r⟩ := h
  exact ⟨⟨n1, n2⟩, ⟨z1.narrow hAB, t1.narrow hAB⟩, ⟨z2.narrow hAB, t2.narrow hAB⟩, ⟨z3.narrow hAB, t3.narrow hAB⟩, ⟨z4.narrow hAB, t4.narrow hAB⟩, ⟨z5.narrow hAB, z6.narrow hAB⟩, s1.narrow hAB, r⟩
theorem ea_F.env {E E' : eE} {A : Nat → Prop} {U : State} {H : Heap} (h : ea_F E A U H) (he : E'.2.2.2 = E.2.2.2) : ea_F E' A U H := by
  unfold ea_F at h ⊢
  rw [he]
  exact h
/-- a constructor's start -/
def eb_Pre (E : eE) (ws : va_W) (sz : Nat) (U : State) : Prop := U.heap.size = sz ∧ va_P E.2.2.1 ea_cl ws U.heap ∧ va_K E.2.2.1 ea_cl (ea_tys E) U ∧ va_D (fun _ => True) ws ∧ ea_F E (va_A ws sz) U U.heap ∧ eb_N U
def eb_Q (E : eE) (ws : va_W) (sz : Nat) (w1 : (Nat → Nat) → va_W) : Array Value → State → Outcome → State → Prop := va_Qv (fun _ : Nat → Nat => True) (fun u t => va_P E.2.2.1 ea_cl (w1 u) t.heap ∧ va_K E.2.2.1 ea_cl (ea_tys E) t ∧ va_D (va_A ws sz) (w1 u)) (va_A ws sz)
def eb_rm (rf mc ms rl : Nat) : Room := { frames := rf, cells := mc, slots := ms, locals := rl }
def eb_M (l : Launch) (y : MethodName) (cc : ByteArray) (nL rf mc ms rl : Nat) (E : eE) (As : List Value) (ws : va_W) (sz : Nat) (w1 : (Nat → Nat) → va_W) : Prop :=
  Met l y (.code y cc nL none :: ea_tbl) (eb_rm rf mc ms rl) (va_Pc As (eb_Pre E ws sz)) (eb_Q E ws sz w1) mc ms (va_A ws sz)
theorem eb_blind {E : eE} {ws : va_W} {sz : Nat} {As : List Value} : FrameBlind (va_Pc As (eb_Pre E ws sz)) := fun a U g mk q => by
  obtain ⟨q0, q1, qP, qK, qD, qF, qN⟩ := q
  exact ⟨q0, q1, qP, va_K.moved (u := U) (U := U.calling g mk a) (Vm.Alike.refl U.vm) qK, qD, qF.call rfl, qN.call rfl⟩
/-- what holds in a constructor's body -/
def eb_C (p : Program) (s : State) (m : MethodId) (args : Array Value) (meth : Method) (c : Code) (cc : ByteArray) (nL : Nat) (own : String) : Prop :=
  ea_C p s m args meth c cc nL none own ∧ meth.name = "<init>"
section EBR
variable {p : Program} {l : Launch} {e : Env} {R : Room} {s : State} {m : MethodId} {args : Array Value} {below : List Frame} {meth : Method} {c : Code} {H : Heap} {locs : List Loc} {cells slots : Nat} {Q : State → Prop}
variable {cc : ByteArray} {nL pc : Nat} {ret : Option FieldType} {own : String} {E : eE} {ls : Array Slot} {rest st0 : List Value} {ws : va_W} {A : Nat → Prop} {H0 : Heap}
theorem eb_go {y : MethodName} {rf mc ms rl sz : Nat} {As : List Value} {w1 : (Nat → Nat) → va_W} (hy : plainName y.cls = true) (hn : (lg_sl As).length ≤ nL) (hni : y.name = "<init>")
    (body : ∀ p e s m below meth c ls, s.heap.size = sz → eb_C p s m As.toArray meth c cc nL y.cls → va_P E.2.2.1 ea_cl ws s.heap → va_K E.2.2.1 ea_cl (ea_tys E) s → va_D (va_A ws sz) ws → ea_F E (va_A ws sz) s s.heap → eb_N s → lv_has ls nL (lv_args 0 As) → W p l e (eb_rm rf mc ms rl) s m As.toArray below meth c s.heap [] 0 0 (MQ below (eb_Q E ws sz w1) As.toArray s mc ms (va_A ws sz)) (F0 m 0 ls [])) : eb_M l y cc nL rf mc ms rl E As ws sz w1 := by
  refine Met.ofW (cc := cc) (maxL := nL) (ret := none) hy rfl ?_
  intro p e s m args below meth c s₁ B hml hv
  obtain ⟨rfl, hsz, hP, hK, hD, hF, hN⟩ := hv
  have hts := atoms_spec (ws := Cond.code y cc nL none :: ea_tbl) B.pre
  have hin : meth.name = "<init>" := ((name_of_methodNamed B.named B.method).1).trans hni
  rw [lg_entry_eq]
  exact body p e s m below meth c _ hsz ⟨⟨B.exec, B.bytes, hml, findClass_of_methodNamed B.named, fun w h => hts w (List.mem_cons_of_mem _ h), B.returns, B.notSynchronized⟩, hin⟩ hP hK hD.self hF hN (lv_entry As hn)
theorem eb_ret {sz mc ms : Nat} {w1 : (Nat → Nat) → va_W} (u : Nat → Nat) (C : eb_C p s m args meth c cc nL own) (hP : va_P E.2.2.1 ea_cl (w1 u) H) (hK : va_K E.2.2.1 ea_cl (ea_tys E) s) (hD : va_D (va_A ws sz) (w1 u)) (hS : va_S (va_A ws sz) s.heap H locs) (hdg : decode cc pc = .ok (.return_, 1)) :
    W p l e R s m args below meth c H locs mc ms (MQ below (eb_Q E ws sz w1) args s mc ms (va_A ws sz)) (F0 m pc ls []) := by
  obtain ⟨⟨hx, hb, -, -, -, hr, hlk⟩, -⟩ := C
  exact W.vret hx hb hr (fun t ht hW => ⟨⟨u, rfl, trivial, by rw [ht]; exact hP, va_K.moved hW.alike hK, hD⟩, hS.F ht⟩) hS.2.2 hdg hlk
theorem eb_obj {a idx : Nat} (C : eb_C p s m args meth c cc nL own) (hlink : Cond.methodLink own idx objectInit ∈ ea_tbl) (hls : ls.size = nL) (hdg : decode cc pc = .ok (.invokespecial idx, 3)) (h1 : 1 ≤ R.frames) (h2 : (rest.map fun v => v.category).sum + 12 ≤ R.locals)
    (kk : W p l e R s m args below meth c H locs cells slots Q (F0 m (pc + 3) ls rest)) : W p l e R s m args below meth c H locs cells slots Q (F0 m pc ls (.ref a :: rest)) := by
  obtain ⟨⟨hx, hb, hml, hown, hts, -, -⟩, -⟩ := C
  refine W.objInit hx hb hown (hts _ hlink) (hts _ wo_inst) (hts _ wo_code) rfl (by rw [hml]; exact hls) rfl hdg h1 ?_ kk
  show 2 * 0 + _ + 12 ≤ _
  rw [Nat.mul_zero, Nat.zero_add]
  exact h2
theorem eb_newa {kt : Nat} {ty : FieldType} {atype : ArrayType} {n : Int32} {N' : Nat} {a0 : vp_A} (C : ea_C p s m args meth c cc nL ret own) (harr : Cond.arrayClass (newarray.typeOf atype) ∈ ea_tbl) (hty : newarray.typeOf atype = ty) (hkt : (ea_tys E)[kt]? = some (E.2.1 kt, ty)) (hra : ∀ cA, va_RA s cA ty → s.vm.findClass ("[" ++ ty.toString) = some cA)
    (hK : va_K E.2.2.1 ea_cl (ea_tys E) s) (hP : va_P E.2.2.1 ea_cl ws H) (hD : va_D A ws) (hS : va_S A H0 H locs) (hA : ∀ q, H0.size ≤ q → A q) (ha : ∀ cA : ClassId, vp_cell cA a0 = arrV cA N' (fun _ => defaultValue ty)) (hn : ¬ n < 0) (hN : n.toNatClampNeg = N') (hbytes : N' * componentBytes ty ≤ 536870912) (hcells : cells + 1 ≤ R.cells) (hslots : slots + N' ≤ R.slots) (hdg : decode cc pc = .ok (.newarray atype, 2))
    (kk : ∀ (q : Nat) (H1 : Heap), va_P E.2.2.1 ea_cl (ws ++ [(q, .inl (E.2.1 kt, a0))]) H1 → va_D A (ws ++ [(q, .inl (E.2.1 kt, a0))]) → va_S A H0 H1 locs → W p l e R s m args below meth c H1 locs (cells + 1) (slots + N') Q (F0 m (pc + 2) ls (.ref q :: rest))) : W p l e R s m args below meth c H locs cells slots Q (F0 m pc ls (.int n :: rest)) := by
  obtain ⟨hx, hb, -, -, hts, -, -⟩ := C
  refine va_newa hx hb (hts _ harr) hty hK hP hD hS hA ha hn hN hbytes hcells hslots hdg (fun q cA H1 hK' hP' hD' hS' => ?_)
  have h1 := hra _ (hK'.2 5 (cA, ty) rfl).2
  have h2 := hra _ (hK.2 kt _ hkt).2
  have e1 : cA = E.2.1 kt := Option.some.inj (h1.symm.trans h2)
  subst e1
  exact kk q H1 hP' hD' hS'
theorem eb_newT {idx : Nat} {n : Int32} {N' : Nat} (C : ea_C p s m args meth c cc nL ret own) (hclink : Cond.classLink own idx "ClothBack$Telling" ∈ ea_tbl) (hNs : eb_N s)
    (hK : va_K E.2.2.1 ea_cl (ea_tys E) s) (hP : va_P E.2.2.1 ea_cl ws H) (hD : va_D A ws) (hS : va_S A H0 H locs) (hA : ∀ q, H0.size ≤ q → A q) (hn : ¬ n < 0) (hN : n.toNatClampNeg = N') (hbytes : N' * 4 ≤ 536870912) (hcells : cells + 1 ≤ R.cells) (hslots : slots + N' ≤ R.slots) (hdg : decode cc pc = .ok (.anewarray idx, 3))
    (kk : ∀ (q : Nat) (H1 : Heap), va_P E.2.2.1 ea_cl (ws ++ [(q, .inl (E.2.1 4, N', .inr (.inr (.inr (.inr (fun _ => none))))))]) H1 → va_D A (ws ++ [(q, .inl (E.2.1 4, N', .inr (.inr (.inr (.inr (fun _ => none))))))]) → va_S A H0 H1 locs → W p l e R s m args below meth c H1 locs (cells + 1) (slots + N') Q (F0 m (pc + 3) ls (.ref q :: rest))) : W p l e R s m args below meth c H locs cells slots Q (F0 m pc ls (.int n :: rest)) := by
  obtain ⟨hx, hb, -, hown, hts, -, -⟩ := C
  refine va_newq hx hb hown (hts _ hclink) hNs.2.2.2.2.2 hK hP hD hS hA hn hN hbytes hcells hslots hdg (fun q cA H1 hK' hP' hD' hS' => ?_)
  have h1 := (hK'.2 5 (cA, .object "ClothBack$Telling") rfl).2
  have h2 := (hK.2 4 (E.2.1 4, .object "ClothBack$Telling") rfl).2
  obtain ⟨k1, c1, -, -, -, f1⟩ := h1
  obtain ⟨k2, c2, -, -, -, f2⟩ := h2
  have e1 : cA = E.2.1 4 := Option.some.inj (f1.symm.trans f2)
  subst e1
  exact kk q H1 hP' hD' hS'
/-- a new object's constructor: what it leaves stands beside the rest -/
theorem eb_join {y : MethodName} {wc wr : va_W} {mc ms : Nat} {w1 : (Nat → Nat) → va_W} {a : Array Value} (hK : va_K E.2.2.1 ea_cl (ea_tys E) s) (hP : va_P E.2.2.1 ea_cl ws H) (hD : va_D A ws) (hS : va_S A H0 H locs) (hA : ∀ q, H0.size ≤ q → A q) (isC isR : List Nat) (hC : isC.map (fun i => ws[i]?) = wc.map some) (hR : isR.map (fun i => ws[i]?) = wr.map some) (hn : va_nd isR = true) (hdis : ∀ i ∈ isR, i ∉ isC)
    (hr : va_Run p l e R s m args below meth c H locs cells slots mc ms (F0 m pc ls st0) rest (eb_Q E wc H.size w1 a) (va_A wc H.size))
    (kk : ∀ (u : Nat → Nat) (H1 : Heap) (locs1 : List Loc), va_P E.2.2.1 ea_cl (wr ++ w1 u) H1 → va_D A (wr ++ w1 u) → va_S A H0 H1 locs1 → W p l e R s m args below meth c H1 locs1 (cells + mc) (slots + ms) Q (F0 m (pc + 3) ls rest)) : W p l e R s m args below meth c H locs cells slots Q (F0 m pc ls st0) := by
  have hFc := va_free (wc := wc) hD hS hA isC hC
  refine va_callv (A0 := A) (A1 := va_A wc H.size) hr hS (fun q _ h => hFc q h) hFc (fun u t H1 locs1 ht hvm hp hB hz hk hS1 => ?_)
  obtain ⟨bP, bK, bD⟩ := hB
  rw [ht] at bP
  obtain ⟨jP, jD⟩ := va_join (wr := wr) (w1 := w1 u) hP hD isC isR hC hR hn hdis hk hFc bP bD
  exact kk u H1 locs1 jP jD hS1
theorem eb_pre {wc : va_W} {As : List Value} (hK : va_K E.2.2.1 ea_cl (ea_tys E) s) (hP : va_P E.2.2.1 ea_cl ws H) (hD : va_D A ws) (hS : va_S A s.heap H locs) (hA : ∀ q, s.heap.size ≤ q → A q) (hF : ea_F E A s s.heap) (hN : eb_N s) (isC : List Nat) (hC : isC.map (fun i => ws[i]?) = wc.map some) (hCf : isC.filterMap (fun i => ws[i]?) = wc) (hn : va_nd isC = true) : PreS s H (va_Pc As (eb_Pre E wc H.size)) As := by
  have hFc := va_free (wc := wc) hD hS hA isC hC
  refine ⟨eb_blind, fun U hU hW => ⟨rfl, by rw [hU], by rw [hU]; exact hP.sub isC hCf, va_K.moved hW.alike hK, (hD.sub isC hn hC).weaken (fun _ _ _ _ => trivial), (hF.warm hW hS hU).narrow (fun q h => hFc q h), hN.warm hW⟩⟩
theorem eb_runI {y : MethodName} {bytes : ByteArray} {nL2 rf mc ms rl index n b : Nat} {As : List Value} {Pc : Array Value → State → Prop} {Qc : Array Value → State → Outcome → State → Prop} {free : Addr → Prop} (C : ea_C p s m args meth c cc nL ret own) (hM : Met l y (.code y bytes nL2 none :: ea_tbl) (eb_rm rf mc ms rl) Pc Qc mc ms free) (hp : PreS s H Pc (.ref b :: As))
    (hcode : Cond.code y bytes nL2 none ∈ ea_tbl) (hini : Cond.initialized y.cls ∈ ea_tbl) (hlink : Cond.methodLink own index y ∈ ea_tbl) (hinst : Cond.instanceMethod y ∈ ea_tbl) (hnm : y.name = "<init>") (hd : ea_cd y n = true) (hR : rf + 1 ≤ R.frames ∧ 8 + (nL2 + 11) + rl ≤ R.locals) (hn : As.length = n) (hls : ls.size = nL) (hst : st0 = As.reverse ++ .ref b :: rest) (hrest : (rest.map fun v => v.category).sum ≤ 8) (hdg : decode cc pc = .ok (.invokespecial index, 3)) (hf : cells + mc ≤ R.cells ∧ slots + ms ≤ R.slots) :
    va_Run p l e R s m args below meth c H locs cells slots mc ms (F0 m pc ls st0) rest (Qc (Value.ref b :: As).toArray) free := by
  simp only [ea_cd, Bool.and_eq_true, decide_eq_true_eq] at hd
  exact va_runI (Ts := ea_tbl) ⟨C.1, C.2.1, C.2.2.1, C.2.2.2.1, C.2.2.2.2.1⟩ hM ⟨callB_of n C.2.2.2.2.1 (ea_goodc hcode) rfl rfl rfl (C.2.2.2.2.1 _ hini) (C.2.2.2.2.1 _ hlink) ⟨hd.1.1, hd.1.2, hd.2⟩ hR, hnm, C.2.2.2.2.1 _ hinst⟩ hp rfl hn hls hst (lv_room hrest) hdg hf
theorem eb_runIN {y : MethodName} {host : String} {bytes : ByteArray} {nL2 rf mc ms rl index n b : Nat} {As : List Value} {Pc : Array Value → State → Prop} {Qc : Array Value → State → Outcome → State → Prop} {free : Addr → Prop} (C : ea_C p s m args meth c cc nL ret own) (hM : Met l y (.code y bytes nL2 none :: ea_tbl) (eb_rm rf mc ms rl) Pc Qc mc ms free) (hp : PreS s H Pc (.ref b :: As))
    (hcode : Cond.code y bytes nL2 none ∈ ea_tbl) (hini : Cond.initialized y.cls ∈ ea_tbl) (hlink : va_Nw (.methodLinkNest own index y host) s) (hinst : Cond.instanceMethod y ∈ ea_tbl) (hnm : y.name = "<init>") (hd : ea_cd y n = true) (hR : rf + 1 ≤ R.frames ∧ 8 + (nL2 + 11) + rl ≤ R.locals) (hn : As.length = n) (hls : ls.size = nL) (hst : st0 = As.reverse ++ .ref b :: rest) (hrest : (rest.map fun v => v.category).sum ≤ 8) (hdg : decode cc pc = .ok (.invokespecial index, 3)) (hf : cells + mc ≤ R.cells ∧ slots + ms ≤ R.slots) :
    va_Run p l e R s m args below meth c H locs cells slots mc ms (F0 m pc ls st0) rest (Qc (Value.ref b :: As).toArray) free := by
  simp only [ea_cd, Bool.and_eq_true, decide_eq_true_eq] at hd
  exact va_runIN (Ts := ea_tbl) ⟨C.1, C.2.1, C.2.2.1, C.2.2.2.1, C.2.2.2.2.1⟩ hM ⟨va_cnB n C.2.2.2.2.1 (ea_goodc hcode) rfl rfl rfl hlink (C.2.2.2.2.1 _ hini) ⟨hd.1.1, hd.1.2, hd.2⟩ hR, hnm, C.2.2.2.2.1 _ hinst⟩ hp rfl hn hls hst (lv_room hrest) hdg hf
/-- a plain void method over the whole of a constructor's cells -/
theorem eb_callP {K o N : Nat} {Cn : String} {Tt : u_T} {E' : eE} {ids : List Nat} {M M' : eM} {y : MethodName} {bytes : ByteArray} {nL2 rf rl index : Nat} (hE : E'.2 = E.2) (C : ea_C p s m args meth c cc nL ret own) (hK : va_K E.2.2.1 ea_cl (ea_tys E) s) (hP : va_P E.2.2.1 ea_cl (ea_ws E' M ids) H) (hD : va_D A (ea_ws E' M ids)) (hS : va_S A s.heap H locs) (hF : ea_F E A s s.heap)
    (ho : ea_ok ids o K) (hK20 : K < 20) (hz : 0 < ea_sz K) (hcl : ea_cl[K]? = some (Cn, Tt, N)) (hM : ea_Mv l y bytes nL2 rf rl E' ids [.ref (E'.1 o)] M M')
    (hcode : Cond.code y bytes nL2 none ∈ ea_tbl) (hini : Cond.initialized y.cls ∈ ea_tbl) (hlink : Cond.methodLink own index y ∈ ea_tbl) (hinst : Cond.instanceMethod y ∈ ea_tbl) (hsel : Cond.selects Cn y y ∈ ea_tbl) (hd : ea_cd y 0 = true) (hR : rf + 1 ≤ R.frames ∧ 8 + (nL2 + 11) + rl ≤ R.locals) (hls : ls.size = nL) (hrest : (rest.map fun v => v.category).sum ≤ 8) (hdg : decode cc pc = .ok (.invokevirtual index, 3)) (hf : cells ≤ R.cells ∧ slots ≤ R.slots)
    (kk : ∀ (H1 : Heap) (locs1 : List Loc), va_P E.2.2.1 ea_cl (ea_ws E' M' ids) H1 → va_D A (ea_ws E' M' ids) → va_S A s.heap H1 locs1 → W p l e R s m args below meth c H1 locs1 cells slots Q (F0 m (pc + 3) ls rest)) : W p l e R s m args below meth c H locs cells slots Q (F0 m pc ls (.ref (E'.1 o) :: rest)) := by
  obtain ⟨ad, Er⟩ := E'
  cases hE
  have hAd : ∀ q, ea_Ad (ad, E.2) ids q → A q := by
    rintro q ⟨x, hx, rfl⟩
    obtain ⟨q0, -, h1⟩ := ea_at (E := (ad, E.2)) (M := M) hx
    exact hD.2 q0 _ h1
  have hDs : ∀ {M2 : eM} {B : Nat → Prop}, va_D B (ea_ws (ad, E.2) M2 ids) → va_D (ea_Ad (ad, E.2) ids) (ea_ws (ad, E.2) M2 ids) := fun {M2 B} h => ⟨h.1, fun k q hq => by
    unfold ea_ws at hq
    rw [List.getElem?_map] at hq
    cases hi : ids[k]? with
    | none => rw [hi] at hq; cases hq
    | some x =>
      rw [hi] at hq
      cases hq
      exact ⟨x, List.mem_of_getElem? hi, rfl⟩⟩
  have hrecv : ∃ cell : Cell, H[ad o]? = some cell ∧ cell.vm.isStatics = false ∧ s.vm.findClass Cn = some cell.cls := by
    obtain ⟨q0, h0, h1⟩ := ea_at (E := (ad, E.2)) (M := M) (ho.mem hz)
    rw [ea_entO ho.1 hK20] at h1
    exact va_recv (q := (Cn, Tt, N)) hK hP hcl h1
  have hr := va_runV (l := l) (p := p) (e := e) (below := below) (meth := meth) (H := H) (locs := locs) (cells := cells) (slots := slots) (As := []) (rest := rest) (g := F0 m pc ls (.ref (ad o) :: rest)) (b := ad o) (n := 0) (Ts := ea_tbl) ⟨C.1, C.2.1, C.2.2.1, C.2.2.2.1, C.2.2.2.2.1⟩ hM ⟨ea_cB (R := R) (n := 0) C hcode hini hlink hd hR, C.2.2.2.2.1 _ hinst, C.2.2.2.2.1 _ hsel⟩ ⟨ea_blind, hrecv, fun U hU hW => ⟨rfl, by rw [hU]; exact hP, va_K.moved hW.alike hK, hDs hD, ((hF.warm hW hS hU).env rfl).narrow hAd⟩⟩ rfl rfl hls rfl (lv_room hrest) hdg hf
  refine va_callv (A0 := A) (A1 := ea_Ad (ad, E.2) ids) hr hS (fun q _ h => hAd q h) hAd (fun u t H1 locs1 ht hvm hp hB hz hk hS1 => ?_)
  cases hp
  obtain ⟨bP, bK, bD, bF⟩ := hB
  rw [ht] at bP
  exact kk H1 locs1 bP (bD.weaken (fun _ _ _ h => hAd _ h)) hS1
end EBR
