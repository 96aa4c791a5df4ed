theorem sz_vat (x1 x2 x3 x4 x5 : Int32) : ea_st InvZ (fX10_vat x1 x2 x3 x4 x5) (fX11_vat x1 x2 x3 x4 x5) := by
  refine ea_qz (fun M c n v th o w q l t r hC => ?_)
  have ho := hC.1.2.2.2.1
  have h7 := ho.2.2.2.2.2.2.2.1
  have hth := hC.1.2.2.2.2.2.2.1.1.1
  have hcl : n 0 * n 1 ≤ 48 := Nat.mul_le_mul ho.1.2 ho.2.1.2
  have gx := gx_fit hC.1 x1 x3 x4
  have px := gx_cell hC.1 x2
  rcases ak_cs ho x1 x3 x4 with h0 | ⟨h0, ca, s, kn, hc1, hc2, hs, hk, rfl, rfl, rfl⟩
  · refine ⟨-2, ⟨M, by unfold fX10_vat fX10_vat_0; simp (disch := omega) only [ev_ck, ev_ci, ev_cv, ev_lt_, ↓reduceIte, ev_lens, ev_ix, ev_nz, ev_cl, ev_cll, ev_add, ev_addl, ev_ladd, ev_mul, ev_mull, ev_lmul, ev_sub, ev_subl, ev_lsub, ev_lt, ev_ltl, ev_llt, ev_le, ev_lel, ev_lle, ev_eq, ev_eql, ev_leq, ev_nm1, ev_nm5, ev_m1n, ev_neg1, ev_ltT, ev_ltF, ev_leT, ev_leF, ev_eqT, ev_eqF, ev_one0, ev_zero1, Nat.reduceAdd, Nat.reduceMul, Nat.reduceSub, ea_pI_eq, ev_pIn, ev_pIe, ea_pI_r, eq_self, gx, h0], Kp.rf M⟩, fun M1 h1 => ⟨M1, ?_, Kp.rf M1⟩⟩
    have gy := gy_fit h1.1 x1 x3 x4
    unfold fX11_vat fX11_vat_0
    simp (disch := omega) only [ev_ck, ev_ci, ev_cv, ev_lt_, ↓reduceIte, ev_lens, ev_ix, ev_nz, ev_cl, ev_cll, ev_add, ev_addl, ev_ladd, ev_mul, ev_mull, ev_lmul, ev_sub, ev_subl, ev_lsub, ev_lt, ev_ltl, ev_llt, ev_le, ev_lel, ev_lle, ev_eq, ev_eql, ev_leq, ev_nm1, ev_nm5, ev_m1n, ev_neg1, ev_ltT, ev_ltF, ev_leT, ev_leF, ev_eqT, ev_eqF, ev_one0, ev_zero1, Nat.reduceAdd, Nat.reduceMul, Nat.reduceSub, ea_pI_eq, ev_pIn, ev_pIe, ea_pI_r, eq_self, gy, h0]
  rcases (pb_01 x2 0 (nI (n 0 * n 1) - 1)) with hb | hb
  · refine ⟨-2, ⟨M, by unfold fX10_vat fX10_vat_0; rw [gx, h0, ev_ci, if_neg (by decide), px, hb, ev_ci, if_pos rfl], Kp.rf M⟩, fun M1 h1 => ⟨M1, ?_, Kp.rf M1⟩⟩
    have gy := gy_fit h1.1 (nI ca) (nI s) (nI kn)
    have py := gy_cell h1.1 x2
    unfold fX11_vat fX11_vat_0
    rw [gy, h0, ev_ci, if_neg (by decide), py, hb, ev_ci, if_pos rfl]
  by_cases hab : nI ca = x2
  · refine ⟨-2, ⟨M, by unfold fX10_vat fX10_vat_0; rw [gx, h0, ev_ci, if_neg (by decide), px, hb, ev_ci, if_neg (by decide), if_pos hab], Kp.rf M⟩, fun M1 h1 => ⟨M1, ?_, Kp.rf M1⟩⟩
    have gy := gy_fit h1.1 (nI ca) (nI s) (nI kn)
    have py := gy_cell h1.1 x2
    unfold fX11_vat fX11_vat_0
    rw [gy, h0, ev_ci, if_neg (by decide), py, hb, ev_ci, if_neg (by decide), if_pos hab]
  obtain ⟨cb, hcb, rfl⟩ := pb_nat0 (by omega) hb
  generalize hA : (fun x => decide (mk (gk n v o w q l t r s kn ca x) ≠ 0)) = A
  generalize hB : (fun x => decide (mk (gk n v o w q l t r s kn cb x) ≠ 0)) = B
  have bA := cnt_le (fun x => A x && B x) th
  have bO := cnt_le (fun x => A x || B x) th
  have hgd : ∀ i, cnt (fun x => A x && B x) i ≤ cnt (fun x => A x || B x) i := by
    intro i
    induction i with
    | zero => exact Nat.le_refl _
    | succ i ih =>
      rw [cnt_s, cnt_s]
      by_cases h : (A i && B i) = true
      · have h' : (A i || B i) = true := by rw [Bool.and_eq_true] at h; rw [h.1]; rfl
        rw [if_pos h, if_pos h']; omega
      · rw [if_neg h]; omega
  refine ⟨vtv (cnt (fun x => A x && B x) th) (cnt (fun x => A x || B x) th) x5, ?_, fun M3 h3 => ?_⟩
  · obtain ⟨M1, e1, f1, r1⟩ := px_find (a := 50) (Or.inl rfl) hC hc2 hk hs
    have hC1 := hC.kp (r1.kp (Or.inl rfl))
    obtain ⟨M2, e2, f2, r2⟩ := px_find (a := 60) (Or.inr rfl) hC1 (cell := cb) (by omega) hk hs
    have hC2 := hC1.kp (r2.kp (Or.inr rfl))
    have yA : ∀ x, x < th → M2.1 53 x = nI (mk (gk n v o w q l t r s kn ca x)) := fun x hx => by rw [r2.1 _ _ (by omega)]; exact f1.1 x hx
    have yB : ∀ x, x < th → M2.1 63 x = nI (mk (gk n v o w q l t r s kn cb x)) := fun x hx => f2.1 x hx
    refine ⟨M2, ?_, (r1.kp (Or.inl rfl)).trans (r2.kp (Or.inr rfl))⟩
    have e41 := hC2.1.2.2.2.2.2.2.2.1.1
    have lp : ∀ (d k i : Nat), th - i = d → i ≤ th → d < k → fX10_vat_58 fX10_vat_156 k x5 (nI (cnt (fun x => A x && B x) i)) (nI (cnt (fun x => A x || B x) i)) (nI i) M2 = fX10_vat_156 x5 (nI (cnt (fun x => A x && B x) th)) (nI (cnt (fun x => A x || B x) th)) M2 := by
      intro d
      induction d with
      | zero =>
        intro k i hd hi hk
        obtain ⟨k, rfl⟩ : ∃ f', k = f' + 1 := ⟨k - 1, by omega⟩
        obtain rfl : i = th := by omega
        simp (disch := omega) only [ev_ck, ev_ci, ev_cv, ev_lt_, ↓reduceIte, ev_lens, ev_ix, ev_nz, ev_cl, ev_cll, ev_add, ev_addl, ev_ladd, ev_mul, ev_mull, ev_lmul, ev_sub, ev_subl, ev_lsub, ev_lt, ev_ltl, ev_llt, ev_le, ev_lel, ev_lle, ev_eq, ev_eql, ev_leq, ev_nm1, ev_nm5, ev_m1n, ev_neg1, ev_ltT, ev_ltF, ev_leT, ev_leF, ev_eqT, ev_eqF, ev_one0, ev_zero1, Nat.reduceAdd, Nat.reduceMul, Nat.reduceSub, ea_pI_eq, ev_pIn, ev_pIe, ea_pI_r, eq_self, fX10_vat_58, e41]
      | succ d ih =>
        intro k i hd hi hk
        obtain ⟨k, rfl⟩ : ∃ f', k = f' + 1 := ⟨k - 1, by omega⟩
        have nx := ih k (i + 1) (by omega) (by omega) (by omega)
        have ya := yA i (by omega)
        have yb := yB i (by omega)
        have la := mk_lt (gk n v o w q l t r s kn ca i)
        have lb := mk_lt (gk n v o w q l t r s kn cb i)
        have eA : A i = decide (mk (gk n v o w q l t r s kn ca i) ≠ 0) := by rw [← hA]
        have eB : B i = decide (mk (gk n v o w q l t r s kn cb i) ≠ 0) := by rw [← hB]
        rw [cnt_s, cnt_s] at nx
        generalize mk (gk n v o w q l t r s kn ca i) = za at ya la eA
        generalize mk (gk n v o w q l t r s kn cb i) = zb at yb lb eB
        by_cases ha : za = 0
        · rw [decide_eq_false (fun q => q ha)] at eA
          by_cases hb : zb = 0
          · rw [decide_eq_false (fun q => q hb)] at eB
            rw [eA, eB, if_neg (by decide), if_neg (by decide)] at nx
            simp (disch := omega) only [ev_ck, ev_ci, ev_cv, ev_lt_, ↓reduceIte, ev_lens, ev_ix, ev_nz, ev_cl, ev_cll, ev_add, ev_addl, ev_ladd, ev_mul, ev_mull, ev_lmul, ev_sub, ev_subl, ev_lsub, ev_lt, ev_ltl, ev_llt, ev_le, ev_lel, ev_lle, ev_eq, ev_eql, ev_leq, ev_nm1, ev_nm5, ev_m1n, ev_neg1, ev_ltT, ev_ltF, ev_leT, ev_leF, ev_eqT, ev_eqF, ev_one0, ev_zero1, Nat.reduceAdd, Nat.reduceMul, Nat.reduceSub, ea_pI_eq, ev_pIn, ev_pIe, ea_pI_r, eq_self, fX10_vat_58, e41, ya, yb, fX10_vat_88, fX10_vat_108, fX10_vat_126, fX10_vat_127, fX10_vat_142, fX10_vat_147]
            exact nx
          · rw [decide_eq_true hb] at eB
            rw [eA, eB, if_neg (by decide), if_pos (by decide)] at nx
            simp (disch := omega) only [ev_ck, ev_ci, ev_cv, ev_lt_, ↓reduceIte, ev_lens, ev_ix, ev_nz, ev_cl, ev_cll, ev_add, ev_addl, ev_ladd, ev_mul, ev_mull, ev_lmul, ev_sub, ev_subl, ev_lsub, ev_lt, ev_ltl, ev_llt, ev_le, ev_lel, ev_lle, ev_eq, ev_eql, ev_leq, ev_nm1, ev_nm5, ev_m1n, ev_neg1, ev_ltT, ev_ltF, ev_leT, ev_leF, ev_eqT, ev_eqF, ev_one0, ev_zero1, Nat.reduceAdd, Nat.reduceMul, Nat.reduceSub, ea_pI_eq, ev_pIn, ev_pIe, ea_pI_r, eq_self, fX10_vat_58, e41, ya, yb, fX10_vat_88, fX10_vat_108, fX10_vat_126, fX10_vat_127, fX10_vat_142, fX10_vat_147]
            exact nx
        · rw [decide_eq_true ha] at eA
          by_cases hb : zb = 0
          · rw [decide_eq_false (fun q => q hb)] at eB
            rw [eA, eB, if_neg (by decide), if_pos (by decide)] at nx
            simp (disch := omega) only [ev_ck, ev_ci, ev_cv, ev_lt_, ↓reduceIte, ev_lens, ev_ix, ev_nz, ev_cl, ev_cll, ev_add, ev_addl, ev_ladd, ev_mul, ev_mull, ev_lmul, ev_sub, ev_subl, ev_lsub, ev_lt, ev_ltl, ev_llt, ev_le, ev_lel, ev_lle, ev_eq, ev_eql, ev_leq, ev_nm1, ev_nm5, ev_m1n, ev_neg1, ev_ltT, ev_ltF, ev_leT, ev_leF, ev_eqT, ev_eqF, ev_one0, ev_zero1, Nat.reduceAdd, Nat.reduceMul, Nat.reduceSub, ea_pI_eq, ev_pIn, ev_pIe, ea_pI_r, eq_self, fX10_vat_58, e41, ya, yb, fX10_vat_88, fX10_vat_108, fX10_vat_126, fX10_vat_127, fX10_vat_142, fX10_vat_147]
            exact nx
          · rw [decide_eq_true hb] at eB
            rw [eA, eB, if_pos (by decide), if_pos (by decide)] at nx
            simp (disch := omega) only [ev_ck, ev_ci, ev_cv, ev_lt_, ↓reduceIte, ev_lens, ev_ix, ev_nz, ev_cl, ev_cll, ev_add, ev_addl, ev_ladd, ev_mul, ev_mull, ev_lmul, ev_sub, ev_subl, ev_lsub, ev_lt, ev_ltl, ev_llt, ev_le, ev_lel, ev_lle, ev_eq, ev_eql, ev_leq, ev_nm1, ev_nm5, ev_m1n, ev_neg1, ev_ltT, ev_ltF, ev_leT, ev_leF, ev_eqT, ev_eqF, ev_one0, ev_zero1, Nat.reduceAdd, Nat.reduceMul, Nat.reduceSub, ea_pI_eq, ev_pIn, ev_pIe, ea_pI_r, eq_self, fX10_vat_58, e41, ya, yb, fX10_vat_88, fX10_vat_108, fX10_vat_126, fX10_vat_127, fX10_vat_142, fX10_vat_147]
            exact nx
    unfold fX10_vat fX10_vat_0
    rw [gx, h0, ev_ci, if_neg (by decide), px, hb, ev_ci, if_neg (by decide), if_neg hab, e1, ev_cv, e2, ev_cv]
    refine (show fX10_vat_58 _ ea_N x5 0 0 0 M2 = _ from lp th ea_N 0 (by omega) (by omega) (by unfold ea_N; omega)).trans ?_
    have hg := hgd th
    generalize cnt (fun x => A x && B x) th = both at bA hg
    generalize cnt (fun x => A x || B x) th = any at bO hg
    unfold fX10_vat_156 vtv
    by_cases hz : both = 0
    · rw [if_pos hz, if_pos (by rw [hz]; rfl)]
      by_cases h5 : x5 = 0
      · rw [if_pos h5, if_pos h5]
      · rw [if_neg h5, if_neg h5]
    · have gg := px_gcd (M := M2) (x := both) (y := any) (by omega) (by omega) (by omega)
      have gpos : 0 < Nat.gcd any both := Nat.gcd_pos_of_pos_right _ (by omega)
      have gle : Nat.gcd any both ≤ both := Nat.gcd_le_right _ (by omega)
      rw [if_neg hz, if_neg (by rw [pn_eq0 (by omega)]; exact hz), gg, ev_ci]
      by_cases h5 : x5 = 0
      · rw [if_pos h5, if_pos h5]
        simp (disch := omega) only [ev_ck, ev_ci, ev_cv, ev_lt_, ↓reduceIte, ev_lens, ev_ix, ev_nz, ev_cl, ev_cll, ev_add, ev_addl, ev_ladd, ev_mul, ev_mull, ev_lmul, ev_sub, ev_subl, ev_lsub, ev_lt, ev_ltl, ev_llt, ev_le, ev_lel, ev_lle, ev_eq, ev_eql, ev_leq, ev_nm1, ev_nm5, ev_m1n, ev_neg1, ev_ltT, ev_ltF, ev_leT, ev_leF, ev_eqT, ev_eqF, ev_one0, ev_zero1, Nat.reduceAdd, Nat.reduceMul, Nat.reduceSub, ea_pI_eq, ev_pIn, ev_pIe, ea_pI_r, eq_self, ev_div]
      · rw [if_neg h5, if_neg h5]
        simp (disch := omega) only [ev_ck, ev_ci, ev_cv, ev_lt_, ↓reduceIte, ev_lens, ev_ix, ev_nz, ev_cl, ev_cll, ev_add, ev_addl, ev_ladd, ev_mul, ev_mull, ev_lmul, ev_sub, ev_subl, ev_lsub, ev_lt, ev_ltl, ev_llt, ev_le, ev_lel, ev_lle, ev_eq, ev_eql, ev_leq, ev_nm1, ev_nm5, ev_m1n, ev_neg1, ev_ltT, ev_ltF, ev_leT, ev_leF, ev_eqT, ev_eqF, ev_one0, ev_zero1, Nat.reduceAdd, Nat.reduceMul, Nat.reduceSub, ea_pI_eq, ev_pIn, ev_pIe, ea_pI_r, eq_self, ev_div]
  · obtain ⟨M4, e4, f4, g4, r4⟩ := py_findFits h3 hc2 hk hs
    have hC4 := h3.kp r4.kp
    obtain ⟨M5, e5, m5, f5, r5⟩ := py_mark (Or.inl rfl) hth hC4.1.2.2.2.2.2.2.2.2.1 f4 (fun e he => (LL_mem he).1) (LL_len h3)
    have k5 : Kp M4 M5 := ⟨⟨fun c k hk => f5 c k (by have := isInv_in hk; omega), r5⟩, fun c k h1 h2 => f5 c k (by omega)⟩
    have hC5 := hC4.kp k5
    obtain ⟨M6, e6, f6, g6, r6⟩ := py_findFits hC5 (cell := cb) (by omega) hk hs
    have hC6 := hC5.kp r6.kp
    obtain ⟨M7, e7, m7, f7, r7⟩ := py_mark (Or.inr rfl) hth hC6.1.2.2.2.2.2.2.2.2.1 f6 (fun e he => (LL_mem he).1) (LL_len h3)
    have k7 : Kp M6 M7 := ⟨⟨fun c k hk => f7 c k (by have := isInv_in hk; omega), r7⟩, fun c k h1 h2 => f7 c k (by omega)⟩
    have hC7 := hC6.kp k7
    refine ⟨M7, ?_, (((r4.kp.trans k5).trans r6.kp).trans k7)⟩
    have e22 := hC7.1.2.2.2.2.2.2.2.2.1
    have yA : ∀ x, x < th → M7.1 122 x = nI (if A x = true then 1 else 0) := fun x hx => by
      rw [f7 _ _ (by omega), r6.1 _ _ (by omega) (by omega), m5 x hx]
      have iA : inL (pl (fk n v o w s (ca % n 0) (sgs q l t r ca kn)) (n 7 + 1) th) x = A x := by
        rw [← hA]
        exact inL_pl (g := gk n v o w q l t r s kn ca) (show n 7 + 1 ≤ 4 by omega) (fun x p hp => gk_f hp) hx
      rw [iA]
    have yB : ∀ x, x < th → M7.1 123 x = nI (if B x = true then 1 else 0) := fun x hx => by
      rw [m7 x hx]
      have iA : inL (pl (fk n v o w s (cb % n 0) (sgs q l t r cb kn)) (n 7 + 1) th) x = B x := by
        rw [← hB]
        exact inL_pl (g := gk n v o w q l t r s kn cb) (show n 7 + 1 ≤ 4 by omega) (fun x p hp => gk_f hp) hx
      rw [iA]
    have lp : ∀ (d k i : Nat), th - i = d → i ≤ th → d < k → fX11_vat_68 fX11_vat_143 k x5 (nI (cnt (fun x => A x && B x) i)) (nI (cnt (fun x => A x || B x) i)) (nI i) M7 = fX11_vat_143 x5 (nI (cnt (fun x => A x && B x) th)) (nI (cnt (fun x => A x || B x) th)) M7 := by
      intro d
      induction d with
      | zero =>
        intro k i hd hi hk
        obtain ⟨k, rfl⟩ : ∃ f', k = f' + 1 := ⟨k - 1, by omega⟩
        obtain rfl : i = th := by omega
        simp (disch := omega) only [ev_ck, ev_ci, ev_cv, ev_lt_, ↓reduceIte, ev_lens, ev_ix, ev_nz, ev_cl, ev_cll, ev_add, ev_addl, ev_ladd, ev_mul, ev_mull, ev_lmul, ev_sub, ev_subl, ev_lsub, ev_lt, ev_ltl, ev_llt, ev_le, ev_lel, ev_lle, ev_eq, ev_eql, ev_leq, ev_nm1, ev_nm5, ev_m1n, ev_neg1, ev_ltT, ev_ltF, ev_leT, ev_leF, ev_eqT, ev_eqF, ev_one0, ev_zero1, Nat.reduceAdd, Nat.reduceMul, Nat.reduceSub, ea_pI_eq, ev_pIn, ev_pIe, ea_pI_r, eq_self, fX11_vat_68, e22]
      | succ d ih =>
        intro k i hd hi hk
        obtain ⟨k, rfl⟩ : ∃ f', k = f' + 1 := ⟨k - 1, by omega⟩
        have nx := ih k (i + 1) (by omega) (by omega) (by omega)
        have ya := yA i (by omega)
        have yb := yB i (by omega)
        rw [cnt_s, cnt_s] at nx
        cases hA' : A i with
        | false =>
          rw [hA', if_neg (by decide)] at ya
          cases hB' : B i with
          | false =>
            rw [hB', if_neg (by decide)] at yb
            rw [hA', hB', if_neg (by decide), if_neg (by decide)] at nx
            simp (disch := omega) only [ev_ck, ev_ci, ev_cv, ev_lt_, ↓reduceIte, ev_lens, ev_ix, ev_nz, ev_cl, ev_cll, ev_add, ev_addl, ev_ladd, ev_mul, ev_mull, ev_lmul, ev_sub, ev_subl, ev_lsub, ev_lt, ev_ltl, ev_llt, ev_le, ev_lel, ev_lle, ev_eq, ev_eql, ev_leq, ev_nm1, ev_nm5, ev_m1n, ev_neg1, ev_ltT, ev_ltF, ev_leT, ev_leF, ev_eqT, ev_eqF, ev_one0, ev_zero1, Nat.reduceAdd, Nat.reduceMul, Nat.reduceSub, ea_pI_eq, ev_pIn, ev_pIe, ea_pI_r, eq_self, fX11_vat_68, e22, ya, yb, fX11_vat_103, fX11_vat_104, fX11_vat_129, fX11_vat_134]
            exact nx
          | true =>
            rw [hB', if_pos rfl] at yb
            rw [hA', hB', if_neg (by decide), if_pos (by decide)] at nx
            simp (disch := omega) only [ev_ck, ev_ci, ev_cv, ev_lt_, ↓reduceIte, ev_lens, ev_ix, ev_nz, ev_cl, ev_cll, ev_add, ev_addl, ev_ladd, ev_mul, ev_mull, ev_lmul, ev_sub, ev_subl, ev_lsub, ev_lt, ev_ltl, ev_llt, ev_le, ev_lel, ev_lle, ev_eq, ev_eql, ev_leq, ev_nm1, ev_nm5, ev_m1n, ev_neg1, ev_ltT, ev_ltF, ev_leT, ev_leF, ev_eqT, ev_eqF, ev_one0, ev_zero1, Nat.reduceAdd, Nat.reduceMul, Nat.reduceSub, ea_pI_eq, ev_pIn, ev_pIe, ea_pI_r, eq_self, fX11_vat_68, e22, ya, yb, fX11_vat_103, fX11_vat_104, fX11_vat_129, fX11_vat_134]
            exact nx
        | true =>
          rw [hA', if_pos rfl] at ya
          cases hB' : B i with
          | false =>
            rw [hB', if_neg (by decide)] at yb
            rw [hA', hB', if_neg (by decide), if_pos (by decide)] at nx
            simp (disch := omega) only [ev_ck, ev_ci, ev_cv, ev_lt_, ↓reduceIte, ev_lens, ev_ix, ev_nz, ev_cl, ev_cll, ev_add, ev_addl, ev_ladd, ev_mul, ev_mull, ev_lmul, ev_sub, ev_subl, ev_lsub, ev_lt, ev_ltl, ev_llt, ev_le, ev_lel, ev_lle, ev_eq, ev_eql, ev_leq, ev_nm1, ev_nm5, ev_m1n, ev_neg1, ev_ltT, ev_ltF, ev_leT, ev_leF, ev_eqT, ev_eqF, ev_one0, ev_zero1, Nat.reduceAdd, Nat.reduceMul, Nat.reduceSub, ea_pI_eq, ev_pIn, ev_pIe, ea_pI_r, eq_self, fX11_vat_68, e22, ya, yb, fX11_vat_103, fX11_vat_104, fX11_vat_129, fX11_vat_134]
            exact nx
          | true =>
            rw [hB', if_pos rfl] at yb
            rw [hA', hB', if_pos (by decide), if_pos (by decide)] at nx
            simp (disch := omega) only [ev_ck, ev_ci, ev_cv, ev_lt_, ↓reduceIte, ev_lens, ev_ix, ev_nz, ev_cl, ev_cll, ev_add, ev_addl, ev_ladd, ev_mul, ev_mull, ev_lmul, ev_sub, ev_subl, ev_lsub, ev_lt, ev_ltl, ev_llt, ev_le, ev_lel, ev_lle, ev_eq, ev_eql, ev_leq, ev_nm1, ev_nm5, ev_m1n, ev_neg1, ev_ltT, ev_ltF, ev_leT, ev_leF, ev_eqT, ev_eqF, ev_one0, ev_zero1, Nat.reduceAdd, Nat.reduceMul, Nat.reduceSub, ea_pI_eq, ev_pIn, ev_pIe, ea_pI_r, eq_self, fX11_vat_68, e22, ya, yb, fX11_vat_103, fX11_vat_104, fX11_vat_129, fX11_vat_134]
            exact nx
    have gy := gy_fit h3.1 (nI ca) (nI s) (nI kn)
    have py := gy_cell h3.1 (nI cb)
    unfold fX11_vat fX11_vat_0
    rw [gy, h0, ev_ci, if_neg (by decide), py, hb, ev_ci, if_neg (by decide), if_neg hab, e4, ev_cv, e5, ev_cv, e6, ev_cv, e7, ev_cv]
    refine (show fX11_vat_68 _ ea_N x5 0 0 0 M7 = _ from lp th ea_N 0 (by omega) (by omega) (by unfold ea_N; omega)).trans ?_
    have hg := hgd th
    generalize cnt (fun x => A x && B x) th = both at bA hg
    generalize cnt (fun x => A x || B x) th = any at bO hg
    unfold fX11_vat_143 vtv
    by_cases hy : any = 0
    · have hz : both = 0 := by omega
      rw [if_pos hz, if_pos (by rw [hy]; rfl)]
      by_cases h5 : x5 = 0
      · rw [if_pos h5, if_pos h5]
      · rw [if_neg h5, if_neg h5]
    · have gg : fX11_common (nI both) (nI any) M7 = some (nI (Nat.gcd any both), M7) := py_gcd any ea_N both (by unfold ea_N; omega) (by omega) (by omega)
      have gpos : 0 < Nat.gcd any both := Nat.gcd_pos_of_pos_left _ (by omega)
      have gle : Nat.gcd any both ≤ any := Nat.gcd_le_left _ (by omega)
      rw [if_neg (by rw [pn_eq0 (by omega)]; exact hy)]
      unfold fX11_vat_171
      by_cases hz : both = 0
      · rw [if_pos hz]
        have gz : Nat.gcd any both = any := by rw [hz]; exact Nat.gcd_zero_right any
        by_cases h5 : x5 = 0
        · rw [if_pos h5, if_pos h5, gg]
          simp (disch := omega) only [ev_ck, ev_ci, ev_cv, ev_lt_, ↓reduceIte, ev_lens, ev_ix, ev_nz, ev_cl, ev_cll, ev_add, ev_addl, ev_ladd, ev_mul, ev_mull, ev_lmul, ev_sub, ev_subl, ev_lsub, ev_lt, ev_ltl, ev_llt, ev_le, ev_lel, ev_lle, ev_eq, ev_eql, ev_leq, ev_nm1, ev_nm5, ev_m1n, ev_neg1, ev_ltT, ev_ltF, ev_leT, ev_leF, ev_eqT, ev_eqF, ev_one0, ev_zero1, Nat.reduceAdd, Nat.reduceMul, Nat.reduceSub, ea_pI_eq, ev_pIn, ev_pIe, ea_pI_r, eq_self, ev_div]
          rw [hz, Nat.zero_div]
          rfl
        · rw [if_neg h5, if_neg h5, gg]
          simp (disch := omega) only [ev_ck, ev_ci, ev_cv, ev_lt_, ↓reduceIte, ev_lens, ev_ix, ev_nz, ev_cl, ev_cll, ev_add, ev_addl, ev_ladd, ev_mul, ev_mull, ev_lmul, ev_sub, ev_subl, ev_lsub, ev_lt, ev_ltl, ev_llt, ev_le, ev_lel, ev_lle, ev_eq, ev_eql, ev_leq, ev_nm1, ev_nm5, ev_m1n, ev_neg1, ev_ltT, ev_ltF, ev_leT, ev_leF, ev_eqT, ev_eqF, ev_one0, ev_zero1, Nat.reduceAdd, Nat.reduceMul, Nat.reduceSub, ea_pI_eq, ev_pIn, ev_pIe, ea_pI_r, eq_self, ev_div]
          rw [gz, Nat.div_self (by omega)]
          rfl
      · rw [if_neg hz]
        by_cases h5 : x5 = 0
        · rw [if_pos h5, if_pos h5, gg]
          simp (disch := omega) only [ev_ck, ev_ci, ev_cv, ev_lt_, ↓reduceIte, ev_lens, ev_ix, ev_nz, ev_cl, ev_cll, ev_add, ev_addl, ev_ladd, ev_mul, ev_mull, ev_lmul, ev_sub, ev_subl, ev_lsub, ev_lt, ev_ltl, ev_llt, ev_le, ev_lel, ev_lle, ev_eq, ev_eql, ev_leq, ev_nm1, ev_nm5, ev_m1n, ev_neg1, ev_ltT, ev_ltF, ev_leT, ev_leF, ev_eqT, ev_eqF, ev_one0, ev_zero1, Nat.reduceAdd, Nat.reduceMul, Nat.reduceSub, ea_pI_eq, ev_pIn, ev_pIe, ea_pI_r, eq_self, ev_div]
        · rw [if_neg h5, if_neg h5, gg]
          simp (disch := omega) only [ev_ck, ev_ci, ev_cv, ev_lt_, ↓reduceIte, ev_lens, ev_ix, ev_nz, ev_cl, ev_cll, ev_add, ev_addl, ev_ladd, ev_mul, ev_mull, ev_lmul, ev_sub, ev_subl, ev_lsub, ev_lt, ev_ltl, ev_llt, ev_le, ev_lel, ev_lle, ev_eq, ev_eql, ev_leq, ev_nm1, ev_nm5, ev_m1n, ev_neg1, ev_ltT, ev_ltF, ev_leT, ev_leF, ev_eqT, ev_eqF, ev_one0, ev_zero1, Nat.reduceAdd, Nat.reduceMul, Nat.reduceSub, ea_pI_eq, ev_pIn, ev_pIe, ea_pI_r, eq_self, ev_div]
