section CS
variable {B : Nat → Nat} {len cc : Nat}
def cE (M : eM) : Option (Int32 × eM) := ea_ci (fX2_closes M) (nx0 so1)
/-- a number put into both drafts -/
theorem jput (hc : pn_c cc) {MX MY : eM} {p i z : Nat} (s : Sy MX MY B len p) (hD : DR MX MY cc B) (z3 : MX.1 3 8 = nI z) (z4 : MY.1 100 11 = nI z) (hi4 : (i = 0 ∧ 1 ≤ z ∧ z ≤ 8) ∨ (i = 1 ∧ 1 ≤ z ∧ z ≤ 6) ∨ (i = 2 ∧ z ≤ 20) ∨ (i = 3 ∧ 1 ≤ z ∧ z ≤ 2)) : Sy (ea_pI MX cc i (MX.1 3 8)) (ea_pI MY 102 (14 + i) (MY.1 100 11)) B len p ∧ DR (ea_pI MX cc i (MX.1 3 8)) (ea_pI MY 102 (14 + i) (MY.1 100 11)) cc B ∧ FDx cc MX (ea_pI MX cc i (MX.1 3 8)) ∧ FDy MY (ea_pI MY 102 (14 + i) (MY.1 100 11)) := by
  have hcc : cc = 10 ∨ cc = 20 := hc
  have fx : FDx cc MX (ea_pI MX cc i (MX.1 3 8)) := (FDx.rf cc MX).pI (by omega)
  have fy : FDy MY (ea_pI MY 102 (14 + i) (MY.1 100 11)) := (FDy.rf MY).pI (by unfold rgY; omega)
  refine ⟨s.put hc fx (ea_pI_ne (by omega)) fy (fun k => ea_pI_ne (by omega)) rfl, ?_, fx, fy⟩
  rw [z3, z4]
  exact hD.put0 hc hi4
/-- slack and most: one number -/
theorem jone (hc : pn_c cc) {MX MY : eM} {p0 p i lo hi : Nat} {x y x4 : Int32} (hx : x = nI lo) (hy : y = nI hi) (h1 : (i = 2 ∧ lo = 0 ∧ hi = 20) ∨ (i = 3 ∧ lo = 1 ∧ hi = 2)) (hr : MX.2.2 3 3 = cc) (h4 : MX.1 cc 4 = x4) (hp : p0 ≤ p) (s : Sy MX MY B len p) (hD : DR MX MY cc B) :
    JO cc (ea_ci (ea_ci (fX2_readNumber x y MX) (nx0 (fun M3 => ea_ck (ea_is (M3.2.2 3 3) 1) (some (1, ea_pI M3 (M3.2.2 3 3) i (M3.1 3 8)))))) (nx0 cE)) (ea_ci (ea_ci (fX11_readNumber x y MY) (nx0 (fun M => some (1, ea_pI M 102 (14 + i) (M.1 100 11))))) (nx0 mcl)) MX MY (CL p0 x4 cc B len) := by
  have hcc : cc = 10 ∨ cc = 20 := hc
  rw [ci_nx, ci_nx]
  refine (jnum s hx hy (by omega) (by omega)).bind ?_
  rintro MX1 MY1 ⟨s1, s2, s3, s4, z, z1, z2, z3, z4⟩ - -
  have er : MX1.2.2 3 3 = cc := by rw [s3.2.2]; exact hr
  obtain ⟨g1, g2, g3, g4⟩ := jput hc (i := i) s1 (hD.cg hc s3 s4) z3 z4 (by omega)
  rw [er, pn_is hc, ev_ck, ev_ci, ev_ci]
  show JO cc (nx0 cE 1 _) (nx0 mcl 1 _) MX1 MY1 _
  unfold nx0
  rw [if_neg (by decide), if_neg (by decide)]
  exact (jend hc g1 g2 (by omega) (by rw [ea_pI_ne (by omega), s3.1 _ _ (by omega)]; exact h4)).mv g3 g4
/-- the model's clauses that may be told but once -/
theorem mw (w : Nat) (hw : w < 5) (hw2 : w ≠ 2) (MY : eM) (K : eM → Option (Int32 × eM)) : ea_ci (fX11_readClause_16 (nI w) MY) (nx0 K) = if (((MY.1 100 21) >>> (nI w &&& 31)) &&& (1 : Int32)) = (1 : Int32) then fX11_fails 3 MY else ea_cv (fX11_scan (ea_pI MY 100 21 ((MY.1 100 21) ||| ((1 : Int32) <<< (nI w &&& 31))))) (fun M11 => ea_ci (if nI w = (1 : Int32) then (ea_ci (fX11_readNumber (0 : Int32) (20 : Int32) M11) (fun r28 M29 => if r28 = 0 then (some ((0 : Int32), M29)) else (some ((1 : Int32), ea_pI M29 102 ((16 : Int32).toNatClampNeg) (M29.1 100 11))))) else (if nI w = (3 : Int32) then (ea_ci (fX11_readNumber (1 : Int32) (2 : Int32) M11) (fun r24 M25 => if r24 = 0 then (some ((0 : Int32), M25)) else (some ((1 : Int32), ea_pI M25 102 ((17 : Int32).toNatClampNeg) (M25.1 100 11))))) else (if nI w = 0 then (ea_ci (fX11_readNumber (1 : Int32) (8 : Int32) M11) (fun r16 M17 => if r16 = 0 then (some ((0 : Int32), M17)) else (ea_ci (fX11_readNumber (1 : Int32) (6 : Int32) (ea_pI M17 102 ((14 : Int32).toNatClampNeg) (M17.1 100 11))) (fun r20 M21 => if r20 = 0 then (some ((0 : Int32), M21)) else (some ((1 : Int32), ea_pI M21 102 ((15 : Int32).toNatClampNeg) (M21.1 100 11))))))) else (fX11_readClause_224 ea_N (0 : Int32) M11)))) (nx0 K)) := by
  unfold fX11_readClause_16
  have e : pb (nI w) 0 4 = 1 := by
    unfold pb
    rw [if_neg (by rw [show (0 : Int32) = nI 0 from rfl, pn_ltI (by omega) (by omega)]; omega), if_neg (by rw [show (4 : Int32) = nI 4 from rfl, pn_ltI (by omega) (by omega)]; omega)]
  have n5 : ¬ nI w = (5 : Int32) := by rw [show (5 : Int32) = nI 5 from rfl, pn_eqI (by omega) (by omega)]; omega
  have n6 : ¬ nI w = (6 : Int32) := by rw [show (6 : Int32) = nI 6 from rfl, pn_eqI (by omega) (by omega)]; omega
  have n7 : ¬ nI w = (7 : Int32) := by rw [show (7 : Int32) = nI 7 from rfl, pn_eqI (by omega) (by omega)]; omega
  have n2 : ¬ nI w = (2 : Int32) := by rw [show (2 : Int32) = nI 2 from rfl, pn_eqI (by omega) (by omega)]; omega
  rw [if_neg n5, if_neg n6, if_neg n7, if_neg n2, py_in, e, ev_ci, if_neg (by decide), ckf, ci_ite, ci_fail, ci_cv]
theorem jSlack (hc : pn_c cc) {MX MY : eM} {p : Nat} (h : Sc MX MY B len p) (hD : DR MX MY cc B) (hr : MX.2.2 3 3 = cc) : JO cc (ea_ci (fX2_isFirst 2 MX) (nx0 (fun M => ea_ci (fX2_readSlack M) (nx0 cE)))) (ea_ci (fX11_readClause_16 1 MY) (nx0 mcl)) MX MY (CL p (MX.1 cc 4) cc B len) := by
  have hcc : cc = 10 ∨ cc = 20 := hc
  have m := mw 1 (by decide) (by decide) MY mcl
  have m : ea_ci (fX11_readClause_16 1 MY) (nx0 mcl) = _ := m
  rw [m]
  obtain ⟨b1, b2, b3, -⟩ := tE_b (B := B) h.1
  refine jfirst hc (w := 1) (by decide) (by decide) h hD ?_
  intro MX' MY' s d x r
  rw [if_pos (show nI 1 = (1 : Int32) from rfl)]
  exact jone hc (i := 2) (lo := 0) (hi := 20) rfl rfl (by omega) (by rw [r]; exact hr) (x _ _ (by omega)) (by omega) s d
theorem jMost (hc : pn_c cc) {MX MY : eM} {p : Nat} (h : Sc MX MY B len p) (hD : DR MX MY cc B) (hr : MX.2.2 3 3 = cc) : JO cc (ea_ci (fX2_isFirst 4 MX) (nx0 (fun M => ea_ci (fX2_readMost M) (nx0 cE)))) (ea_ci (fX11_readClause_16 3 MY) (nx0 mcl)) MX MY (CL p (MX.1 cc 4) cc B len) := by
  have hcc : cc = 10 ∨ cc = 20 := hc
  have m := mw 3 (by decide) (by decide) MY mcl
  have m : ea_ci (fX11_readClause_16 3 MY) (nx0 mcl) = _ := m
  rw [m]
  obtain ⟨b1, b2, b3, -⟩ := tE_b (B := B) h.1
  refine jfirst hc (w := 3) (by decide) (by decide) h hD ?_
  intro MX' MY' s d x r
  rw [if_neg (show ¬ nI 3 = (1 : Int32) by decide), if_pos (show nI 3 = (3 : Int32) from rfl)]
  exact jone hc (i := 3) (lo := 1) (hi := 2) rfl rfl (by omega) (by rw [r]; exact hr) (x _ _ (by omega)) (by omega) s d
theorem jSize (hc : pn_c cc) {MX MY : eM} {p : Nat} (h : Sc MX MY B len p) (hD : DR MX MY cc B) (hr : MX.2.2 3 3 = cc) : JO cc (ea_ci (fX2_isFirst 1 MX) (nx0 (fun M => ea_ci (fX2_readSize M) (nx0 cE)))) (ea_ci (fX11_readClause_16 0 MY) (nx0 mcl)) MX MY (CL p (MX.1 cc 4) cc B len) := by
  have hcc : cc = 10 ∨ cc = 20 := hc
  have m := mw 0 (by decide) (by decide) MY mcl
  have m : ea_ci (fX11_readClause_16 0 MY) (nx0 mcl) = _ := m
  rw [m]
  obtain ⟨b1, b2, b3, -⟩ := tE_b (B := B) h.1
  refine jfirst hc (w := 0) (by decide) (by decide) h hD ?_
  intro MX' MY' s d x r
  rw [if_neg (show ¬ nI 0 = (1 : Int32) by decide), if_neg (show ¬ nI 0 = (3 : Int32) by decide), if_pos (show nI 0 = (0 : Int32) from rfl)]
  unfold fX2_readSize fX2_readSize_0
  show JO cc (ea_ci (ea_ci (fX2_readNumber 1 8 MX') (nx0 _)) (nx0 cE)) (ea_ci (ea_ci (fX11_readNumber 1 8 MY') (nx0 _)) (nx0 mcl)) MX' MY' _
  rw [ci_nx, ci_nx]
  refine (jnum s (a := 1) (b := 8) rfl rfl (by omega) (by omega)).bind ?_
  rintro MX1 MY1 ⟨s1, s2, s3, s4, z, z1, z2, z3, z4⟩ - -
  have er : MX1.2.2 3 3 = cc := by rw [s3.2.2, r]; exact hr
  obtain ⟨g1, g2, g3, g4⟩ := jput hc (i := 0) s1 (d.cg hc s3 s4) z3 z4 (by omega)
  rw [er, pn_is hc, ev_ck]
  show JO cc (ea_ci (ea_ci (fX2_readNumber 1 6 (ea_pI MX1 cc 0 (MX1.1 3 8))) (nx0 _)) (nx0 cE)) (ea_ci (ea_ci (fX11_readNumber 1 6 (ea_pI MY1 102 (14 + 0) (MY1.1 100 11))) (nx0 _)) (nx0 mcl)) MX1 MY1 _
  rw [ci_nx, ci_nx]
  refine JO.mv ((jnum g1 (a := 1) (b := 6) rfl rfl (by omega) (by omega)).bind ?_) g3 g4
  rintro MX2 MY2 ⟨t1, t2, t3, t4, y, y1, y2, y3, y4⟩ - -
  have er2 : MX2.2.2 3 3 = cc := by rw [t3.2.2]; exact er
  obtain ⟨k1, k2, k3, k4⟩ := jput hc (i := 1) t1 (g2.cg hc t3 t4) y3 y4 (by omega)
  rw [er2, pn_is hc, ev_ck, ev_ci, ev_ci]
  show JO cc (nx0 cE 1 _) (nx0 mcl 1 _) MX2 MY2 _
  unfold nx0
  rw [if_neg (by decide), if_neg (by decide)]
  exact (jend hc k1 k2 (by omega) (by rw [ea_pI_ne (by omega), t3.1 _ _ (by omega), ea_pI_ne (by omega), s3.1 _ _ (by omega)]; exact x _ _ (by omega))).mv k3 k4
end CS
