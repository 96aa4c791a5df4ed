def ea_max (x y : Int32) : Int32 := if x < y then y else x
def ea_min (x y : Int32) : Int32 := if y < x then y else x
def ea_abs (x : Int32) : Int32 := if 0 ≤ x then x else 0 - x
def ea_lt {α β : Type} (v : α) (k : α → Option β) : Option β := k v
theorem ea_lt_s {α β : Type} {v : α} {k : α → Option β} {r : β} (h : ea_lt v k = some r) : ∃ y : α, v = y ∧ k y = some r := ⟨v, rfl, h⟩
theorem ea_ixs {i : Int32} (h : ea_ix i (ea_len 46) = true) : i.toNatClampNeg < 3 := by
  simp only [ea_ix, Bool.and_eq_true, decide_eq_true_eq] at h
  exact h.2
def ea_cpok (a b : Nat) (n : Int32) : Bool := decide (¬ n < 0) && decide (n.toNatClampNeg ≤ ea_len a) && decide (n.toNatClampNeg ≤ ea_len b)
def ea_cp (M : eM) (a b : Nat) (n : Int32) : eM := (fun q => if q = b then va_cpy (M.1 a) (M.1 b) 0 0 n.toNatClampNeg else M.1 q, M.2)
theorem ea_cp_o {E : eE} {M : eM} {a b q : Nat} {n : Int32} (h : q ≠ b) : ea_ent E (ea_cp M a b n) q = ea_ent E M q := ea_ent_congr (if_neg h) rfl rfl
theorem ea_cp_s {M : eM} {a b : Nat} {n : Int32} : (ea_cp M a b n).1 b = va_cpy (M.1 a) (M.1 b) 0 0 n.toNatClampNeg := if_pos rfl
section EAT
variable {p : Program} {l : Launch} {e : Env} {R : Room} {s : State} {m : MethodId} {args : Array Value} {below : List Frame} {meth : Method} {c : Code} {H : Heap} {locs : List Loc} {cells slots : Nat} {Q : State → Prop}
variable {cc : ByteArray} {nL pc : Nat} {ret : Option FieldType} {own : String} {E : eE} {ids : List Nat} {M : eM} {ls : Array Slot} {rest st0 : List Value}
theorem ea_topi {x y : Int32} (h : x = y) (k : W p l e R s m args below meth c H locs cells slots Q (F0 m pc ls (.int y :: rest))) : W p l e R s m args below meth c H locs cells slots Q (F0 m pc ls (.int x :: rest)) := by rw [h]; exact k
theorem ea_topl {x y : Int64} (h : x = y) (k : W p l e R s m args below meth c H locs cells slots Q (F0 m pc ls (.long y :: rest))) : W p l e R s m args below meth c H locs cells slots Q (F0 m pc ls (.long x :: rest)) := by rw [h]; exact k
theorem ea_topr {x y : Nat} (h : x = y) (k : W p l e R s m args below meth c H locs cells slots Q (F0 m pc ls (.ref (E.1 y) :: rest))) : W p l e R s m args below meth c H locs cells slots Q (F0 m pc ls (.ref (E.1 x) :: rest)) := by rw [h]; exact k
theorem ea_runi2 {x : Int32} {M' : eM} {a : Array Value} (hw : ea_w E ids M s H locs) (hr : va_Run p l e R s m args below meth c H locs cells slots 0 0 (F0 m pc ls st0) rest (ea_Qi E ids (x, M') a) (ea_Ad E ids))
    (kk : ∀ (H1 : Heap) (locs1 : List Loc), ea_w E ids M' s H1 locs1 → W p l e R s m args below meth c H1 locs1 cells slots Q (F0 m (pc + 3) ls (.int x :: rest))) : W p l e R s m args below meth c H locs cells slots Q (F0 m pc ls st0) := ea_runi hw hr kk
theorem ea_copy {a b index : Nat} {n : Int32} (C : ea_C p s m args meth c cc nL ret own) (hw : ea_w E ids M s H locs) (ha : ea_ok ids a 20) (hb : ea_ok ids b 20) (hc : ea_cpok a b n = true) (hls : ls.size = nL) (hlink : (Cond.methodLink own index arraycopyName).before args s = true) (hnat : (Cond.native arraycopyName).before args s = true) (hstat : (Cond.static arraycopyName).before args s = true) (hini : (Cond.initialized "java/lang/System").before args s = true) (h1 : 1 ≤ R.frames) (h2 : (rest.map fun v => v.category).sum + (nativeFrameWords "java/lang/System" "arraycopy" 5 + 11) ≤ R.locals) (hdg : decode cc pc = .ok (.invokestatic index, 3))
    (kk : ∀ (H1 : Heap) (locs1 : List Loc), ea_w E ids (ea_cp M a b n) s H1 locs1 → W p l e R s m args below meth c H1 locs1 cells slots Q (F0 m (pc + 3) ls rest)) : W p l e R s m args below meth c H locs cells slots Q (F0 m pc ls (.int n :: .int 0 :: .ref (E.1 b) :: .int 0 :: .ref (E.1 a) :: rest)) := by
  simp only [ea_cpok, Bool.and_eq_true, decide_eq_true_eq] at hc
  obtain ⟨⟨c1, c2⟩, c3⟩ := hc
  obtain ⟨q0, g0, g1⟩ := ea_at (E := E) (M := M) (ha.mem (by decide))
  obtain ⟨q1, k0, k1⟩ := ea_at (E := E) (M := M) (hb.mem (by decide))
  rw [ea_entI ha.1] at g1
  rw [ea_entI hb.1] at k1
  have z : (0 : Int32).toNatClampNeg = 0 := by decide
  refine va_copyi C.1 C.2.1 (C.2.2.1.trans hls.symm) C.2.2.2.1 hlink hnat hstat hini hw.2.1 hw.1 hw.2.2.1 hw.2.2.2.1 q0 q1 0 0 g1 k1 (ty := .int) rfl rfl rfl (by decide) (by decide) c1 (by rw [z]; omega) (by rw [z]; omega) (fun i _ => rfl) h1 h2 hdg (fun H1 locs1 hP hD hS => ?_)
  rw [z, ← ea_cp_s, ← ea_entI hb.1, ea_set hw.2.2.1 k0 (fun q hq => ea_cp_o hq)] at hP hD
  exact kk H1 locs1 ⟨hP, hw.2.1, hD, hS, hw.2.2.2.2⟩
end EAT
