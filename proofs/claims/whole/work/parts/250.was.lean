/-- what fits a CELL -/
def gk (n : Nat → Nat) (v : Nat → Nat → Nat) (o w q : Nat → Nat) (l t r : Nat → Nat → Nat) (s kn cell : Nat) : Nat → Nat → Bool := fk n v o w s (cell % n 0) (sgs q l t r cell kn)
def LL (n : Nat → Nat) (v : Nat → Nat → Nat) (th : Nat) (o w q : Nat → Nat) (l t r : Nat → Nat → Nat) (s kn cell : Nat) : List (Nat × Nat) := pl (gk n v o w q l t r s kn cell) (n 7 + 1) th
section LLs
variable {M : eM} {a cc th : Nat} {n : Nat → Nat} {v : Nat → Nat → Nat} {o w q : Nat → Nat} {l t r : Nat → Nat → Nat} {s kn cell : Nat}
theorem LL_len (hC : Ctx M cc n v th o w q l t r) : (LL n v th o w q l t r s kn cell).length ≤ 3420 := by
  have h7 := hC.1.2.2.2.1.2.2.2.2.2.2.2.1
  have hth := hC.1.2.2.2.2.2.2.1.1.1
  have := pl_len (gk n v o w q l t r s kn cell) (show n 7 + 1 ≤ 4 by omega) th
  unfold LL
  omega
theorem LL_mem {e : Nat × Nat} (h : e ∈ LL n v th o w q l t r s kn cell) : e.1 < th ∧ e.2 < n 7 + 1 := ⟨(pl_mem h).1, (pl_mem h).2.1⟩
theorem gk_f {x p : Nat} (hp : n 7 + 1 ≤ p) : gk n v o w q l t r s kn cell x p = false := by unfold gk fk; rw [decide_eq_false (by omega)]; rfl
end LLs
theorem sz_was (x1 x2 x3 x4 x5 : Int32) : ea_st InvZ (fX10_was x1 x2 x3 x4 x5) (fX11_was x1 x2 x3 x4 x5) := by
  refine ea_qz (fun M c n v th o w q l t r hC => ?_)
  have ho := hC.1.2.2.2.1
  have h7 := ho.2.2.2.2.2.2.2.1
  have gx := gx_fit hC.1 x1 x2 x3
  have px := gx_colour (M := M) x4
  rcases ak_cs ho x1 x2 x3 with h0 | ⟨h0, cell, s, kn, hc1, hc2, hs, hk, rfl, rfl, rfl⟩
  · refine ⟨-2, ⟨M, by unfold fX10_was fX10_was_0; simp (disch := omega) only [ev_ck, ev_ci, ev_cv, ev_lt_, ↓reduceIte, ev_lens, ev_ix, ev_nz, ev_cl, ev_cll, ev_add, ev_addl, ev_ladd, ev_mul, ev_mull, ev_lmul, ev_sub, ev_subl, ev_lsub, ev_lt, ev_ltl, ev_llt, ev_le, ev_lel, ev_lle, ev_eq, ev_eql, ev_leq, ev_nm1, ev_nm5, ev_m1n, ev_neg1, ev_ltT, ev_ltF, ev_leT, ev_leF, ev_eqT, ev_eqF, ev_one0, ev_zero1, Nat.reduceAdd, Nat.reduceMul, Nat.reduceSub, ea_pI_eq, ev_pIn, ev_pIe, ea_pI_r, eq_self, gx, h0], Kp.rf M⟩, fun M1 h1 => ⟨M1, ?_, Kp.rf M1⟩⟩
    have gy := gy_fit h1.1 x1 x2 x3
    unfold fX11_was fX11_was_0
    simp (disch := omega) only [ev_ck, ev_ci, ev_cv, ev_lt_, ↓reduceIte, ev_lens, ev_ix, ev_nz, ev_cl, ev_cll, ev_add, ev_addl, ev_ladd, ev_mul, ev_mull, ev_lmul, ev_sub, ev_subl, ev_lsub, ev_lt, ev_ltl, ev_llt, ev_le, ev_lel, ev_lle, ev_eq, ev_eql, ev_leq, ev_nm1, ev_nm5, ev_m1n, ev_neg1, ev_ltT, ev_ltF, ev_leT, ev_leF, ev_eqT, ev_eqF, ev_one0, ev_zero1, Nat.reduceAdd, Nat.reduceMul, Nat.reduceSub, ea_pI_eq, ev_pIn, ev_pIe, ea_pI_r, eq_self, gy, h0]
  rcases (pb_01 x4 0 (nI 3 - 1)) with hb | hb
  · refine ⟨-2, ⟨M, by unfold fX10_was fX10_was_0; rw [gx, h0, ev_ci, if_neg (by decide), px, hb, ev_ci, if_pos rfl], Kp.rf M⟩, fun M1 h1 => ⟨M1, ?_, Kp.rf M1⟩⟩
    have gy := gy_fit h1.1 (nI cell) (nI s) (nI kn)
    have py := gy_colour (M := M1) x4
    unfold fX11_was fX11_was_0
    rw [gy, h0, ev_ci, if_neg (by decide), py, hb, ev_ci, if_pos rfl]
  obtain ⟨k, hk3, rfl⟩ := pb_nat0 (by decide) hb
  obtain ⟨M1, e1, f1, r1⟩ := px_find (a := 50) (Or.inl rfl) hC hc2 hk hs
  have hC1 := hC.kp (r1.kp (Or.inl rfl))
  have hll := LL_len hC (s := s) (kn := kn) (cell := cell)
  obtain ⟨M2, e2, s2, f2, r2⟩ := px_span (Or.inl rfl) hC1 (show n 7 + 1 ≤ 4 by omega) (fun x p hp => gk_f (q := q) (l := l) (t := t) (r := r) (kn := kn) (cell := cell) hp) f1
  refine ⟨sEnd (fun x => sp_col v o w x 0 k) x5 (LL n v th o w q l t r s kn cell), ?_, fun M3 h3 => ?_⟩
  · have f6 : M1.1 50 6 = nI (LL n v th o w q l t r s kn cell).length := f1.2.1
    obtain ⟨sk1, sk2⟩ := s2 k hk3
    replace sk1 : M2.1 54 k = nI (mn (fun x => sp_col v o w x 0 k) (LL n v th o w q l t r s kn cell)) := sk1
    replace sk2 : M2.1 55 k = nI (mx (fun x => sp_col v o w x 0 k) (LL n v th o w q l t r s kn cell)) := sk2
    generalize LL n v th o w q l t r s kn cell = L at f6 hll sk1 sk2
    cases L with
    | nil =>
      refine ⟨M1, ?_, r1.kp (Or.inl rfl)⟩
      have f6 : M1.1 50 6 = 0 := f6
      unfold fX10_was fX10_was_0
      rw [gx, h0, ev_ci, if_neg (by decide), px, hb, ev_ci, if_neg (by decide), e1, ev_cv, f6, if_pos rfl]
      rfl
    | cons e R =>
      refine ⟨M2, ?_, (r1.kp (Or.inl rfl)).trans (r2.kp (Or.inl rfl))⟩
      have f6 : M1.1 50 6 = nI (R.length + 1) := f6
      have hll : R.length + 1 ≤ 3420 := hll
      unfold fX10_was fX10_was_0
      rw [gx, h0, ev_ci, if_neg (by decide), px, hb, ev_ci, if_neg (by decide), e1, ev_cv, f6, if_neg (by rw [pn_eq0 (by omega)]; omega), e2, ev_cv]
      by_cases hz : x5 = 0
      · rw [if_pos hz]
        simp (disch := omega) only [ev_ck, ev_ci, ev_cv, ev_lt_, ↓reduceIte, ev_lens, ev_ix, ev_nz, ev_cl, ev_cll, ev_add, ev_addl, ev_ladd, ev_mul, ev_mull, ev_lmul, ev_sub, ev_subl, ev_lsub, ev_lt, ev_ltl, ev_llt, ev_le, ev_lel, ev_lle, ev_eq, ev_eql, ev_leq, ev_nm1, ev_nm5, ev_m1n, ev_neg1, ev_ltT, ev_ltF, ev_leT, ev_leF, ev_eqT, ev_eqF, ev_one0, ev_zero1, Nat.reduceAdd, Nat.reduceMul, Nat.reduceSub, ea_pI_eq, ev_pIn, ev_pIe, ea_pI_r, eq_self, sk1]
        show _ = some (nI (if x5 = 0 then _ else _), M2)
        rw [if_pos hz]
      · rw [if_neg hz]
        simp (disch := omega) only [ev_ck, ev_ci, ev_cv, ev_lt_, ↓reduceIte, ev_lens, ev_ix, ev_nz, ev_cl, ev_cll, ev_add, ev_addl, ev_ladd, ev_mul, ev_mull, ev_lmul, ev_sub, ev_subl, ev_lsub, ev_lt, ev_ltl, ev_llt, ev_le, ev_lel, ev_lle, ev_eq, ev_eql, ev_leq, ev_nm1, ev_nm5, ev_m1n, ev_neg1, ev_ltT, ev_ltF, ev_leT, ev_leF, ev_eqT, ev_eqF, ev_one0, ev_zero1, Nat.reduceAdd, Nat.reduceMul, Nat.reduceSub, ea_pI_eq, ev_pIn, ev_pIe, ea_pI_r, eq_self, sk2]
        show _ = some (nI (if x5 = 0 then _ else _), M2)
        rw [if_neg hz]
  · obtain ⟨M4, e4, f4, g4, r4⟩ := py_findFits h3 hc2 hk hs
    refine ⟨M4, ?_, r4.kp⟩
    have gy := gy_fit h3.1 (nI cell) (nI s) (nI kn)
    have py := gy_colour (M := M3) (nI k)
    have sp := py_span (h3.kp r4.kp) f4 (fun e he => (LL_mem he).1) (LL_len h3) hk3 x5
    unfold fX11_was fX11_was_0
    rw [gy, h0, ev_ci, if_neg (by decide), py, hb, ev_ci, if_neg (by decide), e4, ev_cv, sp, ev_ci]
    rfl
theorem gy_bound {M : eM} (x : Int32) : fX11_isBound x M = some (pb x 0 (nI 100 - 1), M) := by
  unfold fX11_isBound fX11_isBound_0
  rw [py_in, ev_ci]
  have e : (99 : Int32) = nI 100 - 1 := by decide
  rw [e, ea_ck_t (pb_ok ..)]
theorem sz_grey (x1 x2 x3 x4 x5 : Int32) : ea_st InvZ (fX10_grey x1 x2 x3 x4 x5) (fX11_grey x1 x2 x3 x4 x5) := by
  refine ea_qz (fun M c n v th o w q l t r hC => ?_)
  have ho := hC.1.2.2.2.1
  have h7 := ho.2.2.2.2.2.2.2.1
  have gx := gx_fit hC.1 x1 x2 x3
  have px : fX10_isWithin x4 0 99 M = some (pb x4 0 (nI 100 - 1), M) := px_in x4 0 99 M
  have px2 := gx_colour (M := M) x5
  rcases ak_cs ho x1 x2 x3 with h0 | ⟨h0, cell, s, kn, hc1, hc2, hs, hk, rfl, rfl, rfl⟩
  · refine ⟨-2, ⟨M, by unfold fX10_grey fX10_grey_0; simp (disch := omega) only [ev_ck, ev_ci, ev_cv, ev_lt_, ↓reduceIte, ev_lens, ev_ix, ev_nz, ev_cl, ev_cll, ev_add, ev_addl, ev_ladd, ev_mul, ev_mull, ev_lmul, ev_sub, ev_subl, ev_lsub, ev_lt, ev_ltl, ev_llt, ev_le, ev_lel, ev_lle, ev_eq, ev_eql, ev_leq, ev_nm1, ev_nm5, ev_m1n, ev_neg1, ev_ltT, ev_ltF, ev_leT, ev_leF, ev_eqT, ev_eqF, ev_one0, ev_zero1, Nat.reduceAdd, Nat.reduceMul, Nat.reduceSub, ea_pI_eq, ev_pIn, ev_pIe, ea_pI_r, eq_self, gx, h0], Kp.rf M⟩, fun M1 h1 => ⟨M1, ?_, Kp.rf M1⟩⟩
    have gy := gy_fit h1.1 x1 x2 x3
    unfold fX11_grey fX11_grey_0
    simp (disch := omega) only [ev_ck, ev_ci, ev_cv, ev_lt_, ↓reduceIte, ev_lens, ev_ix, ev_nz, ev_cl, ev_cll, ev_add, ev_addl, ev_ladd, ev_mul, ev_mull, ev_lmul, ev_sub, ev_subl, ev_lsub, ev_lt, ev_ltl, ev_llt, ev_le, ev_lel, ev_lle, ev_eq, ev_eql, ev_leq, ev_nm1, ev_nm5, ev_m1n, ev_neg1, ev_ltT, ev_ltF, ev_leT, ev_leF, ev_eqT, ev_eqF, ev_one0, ev_zero1, Nat.reduceAdd, Nat.reduceMul, Nat.reduceSub, ea_pI_eq, ev_pIn, ev_pIe, ea_pI_r, eq_self, gy, h0]
  rcases (pb_01 x4 0 (nI 100 - 1)) with hb | hb
  · refine ⟨-2, ⟨M, by unfold fX10_grey fX10_grey_0; rw [gx, h0, ev_ci, if_neg (by decide), px, hb, ev_ci, if_pos rfl], Kp.rf M⟩, fun M1 h1 => ⟨M1, ?_, Kp.rf M1⟩⟩
    have gy := gy_fit h1.1 (nI cell) (nI s) (nI kn)
    have py := gy_bound (M := M1) x4
    unfold fX11_grey fX11_grey_0
    rw [gy, h0, ev_ci, if_neg (by decide), py, hb, ev_ci, if_pos rfl]
  rcases (pb_01 x5 0 (nI 3 - 1)) with hb2 | hb2
  · refine ⟨-2, ⟨M, by unfold fX10_grey fX10_grey_0; rw [gx, h0, ev_ci, if_neg (by decide), px, hb, ev_ci, if_neg (by decide), px2, hb2, ev_ci, if_pos rfl], Kp.rf M⟩, fun M1 h1 => ⟨M1, ?_, Kp.rf M1⟩⟩
    have gy := gy_fit h1.1 (nI cell) (nI s) (nI kn)
    have py := gy_bound (M := M1) x4
    have py2 := gy_colour (M := M1) x5
    unfold fX11_grey fX11_grey_0
    rw [gy, h0, ev_ci, if_neg (by decide), py, hb, ev_ci, if_neg (by decide), py2, hb2, ev_ci, if_pos rfl]
  obtain ⟨bd, hbd, rfl⟩ := pb_nat0 (by decide) hb
  obtain ⟨k, hk3, rfl⟩ := pb_nat0 (by decide) hb2
  obtain ⟨M1, e1, f1, r1⟩ := px_find (a := 50) (Or.inl rfl) hC hc2 hk hs
  have hC1 := hC.kp (r1.kp (Or.inl rfl))
  have hll := LL_len hC (s := s) (kn := kn) (cell := cell)
  obtain ⟨M2, e2, s2, f2, r2⟩ := px_span (Or.inl rfl) hC1 (show n 7 + 1 ≤ 4 by omega) (fun x p hp => gk_f (q := q) (l := l) (t := t) (r := r) (kn := kn) (cell := cell) hp) f1
  have gr := px_grey (Or.inl rfl) (fun c x => sp_col_le) s2 f2.2.1 hll (bound := bd) (c := k) (by omega) hk3
  refine ⟨nI (grv (fun c x => sp_col v o w x 0 c) (LL n v th o w q l t r s kn cell) bd k), ⟨M2, ?_, (r1.kp (Or.inl rfl)).trans (r2.kp (Or.inl rfl))⟩, fun M3 h3 => ?_⟩
  · unfold fX10_grey fX10_grey_0
    rw [gx, h0, ev_ci, if_neg (by decide), px, hb, ev_ci, if_neg (by decide), px2, hb2, ev_ci, if_neg (by decide), e1, ev_cv, e2, ev_cv, gr, ev_ci]
    rfl
  · obtain ⟨M4, e4, f4, g4, r4⟩ := py_findFits h3 hc2 hk hs
    refine ⟨M4, ?_, r4.kp⟩
    have gy := gy_fit h3.1 (nI cell) (nI s) (nI kn)
    have py := gy_bound (M := M3) (nI bd)
    have py2 := gy_colour (M := M3) (nI k)
    have sp := py_grey (h3.kp r4.kp) f4 (fun e he => (LL_mem he).1) (LL_len h3) (bound := bd) (c := k) (by omega) hk3
    unfold fX11_grey fX11_grey_0
    rw [gy, h0, ev_ci, if_neg (by decide), py, hb, ev_ci, if_neg (by decide), py2, hb2, ev_ci, if_neg (by decide), e4, ev_cv, sp, ev_ci]
    rfl
theorem sz_mended (x1 x2 x3 : Int32) : ea_st InvZ (fX10_mended x1 x2 x3) (fX11_mended x1 x2 x3) := by
  refine ea_qz (fun M c n v th o w q l t r hC => ?_)
  have ho := hC.1.2.2.2.1
  have h7 := ho.2.2.2.2.2.2.2.1
  have gx := gx_fit hC.1 x1 x2 x3
  rcases ak_cs ho x1 x2 x3 with h0 | ⟨h0, cell, s, kn, hc1, hc2, hs, hk, rfl, rfl, rfl⟩
  · refine ⟨-2, ⟨M, by unfold fX10_mended fX10_mended_0; simp (disch := omega) only [ev_ck, ev_ci, ev_cv, ev_lt_, ↓reduceIte, ev_lens, ev_ix, ev_nz, ev_cl, ev_cll, ev_add, ev_addl, ev_ladd, ev_mul, ev_mull, ev_lmul, ev_sub, ev_subl, ev_lsub, ev_lt, ev_ltl, ev_llt, ev_le, ev_lel, ev_lle, ev_eq, ev_eql, ev_leq, ev_nm1, ev_nm5, ev_m1n, ev_neg1, ev_ltT, ev_ltF, ev_leT, ev_leF, ev_eqT, ev_eqF, ev_one0, ev_zero1, Nat.reduceAdd, Nat.reduceMul, Nat.reduceSub, ea_pI_eq, ev_pIn, ev_pIe, ea_pI_r, eq_self, gx, h0], Kp.rf M⟩, fun M1 h1 => ⟨M1, ?_, Kp.rf M1⟩⟩
    have gy := gy_fit h1.1 x1 x2 x3
    unfold fX11_mended fX11_mended_0
    simp (disch := omega) only [ev_ck, ev_ci, ev_cv, ev_lt_, ↓reduceIte, ev_lens, ev_ix, ev_nz, ev_cl, ev_cll, ev_add, ev_addl, ev_ladd, ev_mul, ev_mull, ev_lmul, ev_sub, ev_subl, ev_lsub, ev_lt, ev_ltl, ev_llt, ev_le, ev_lel, ev_lle, ev_eq, ev_eql, ev_leq, ev_nm1, ev_nm5, ev_m1n, ev_neg1, ev_ltT, ev_ltF, ev_leT, ev_leF, ev_eqT, ev_eqF, ev_one0, ev_zero1, Nat.reduceAdd, Nat.reduceMul, Nat.reduceSub, ea_pI_eq, ev_pIn, ev_pIe, ea_pI_r, eq_self, gy, h0]
  obtain ⟨M1, e1, f1, r1⟩ := px_find (a := 50) (Or.inl rfl) hC hc2 hk hs
  have hll := LL_len hC (s := s) (kn := kn) (cell := cell)
  have hlm : ∀ e, e ∈ LL n v th o w q l t r s kn cell → e.2 < n 7 + 1 := fun e he => (LL_mem he).2
  have f6 : M1.1 50 6 = nI (LL n v th o w q l t r s kn cell).length := f1.2.1
  have f7 : M1.1 50 7 = nI (c0 (LL n v th o w q l t r s kn cell)) := f1.2.2.1
  have mo : ∀ M3, Ctx M3 c n v th o w q l t r → ∃ M4, fX11_findFits (nI cell) (nI s) (nI kn) M3 = some M4 ∧ FL M4 v (LL n v th o w q l t r s kn cell) ∧ FrW M3 M4 := by
    intro M3 h3
    obtain ⟨M4, e4, f4, g4, r4⟩ := py_findFits h3 hc2 hk hs
    exact ⟨M4, e4, f4, r4⟩
  generalize LL n v th o w q l t r s kn cell = L at f6 f7 hll hlm mo
  have hc0 := c0_le L
  refine ⟨if L.length = 0 then -1 else if c0 L = L.length then 0 else if c0 L = 0 then 1 else 2, ⟨M1, ?_, r1.kp (Or.inl rfl)⟩, fun M3 h3 => ?_⟩
  · unfold fX10_mended fX10_mended_0
    rw [gx, h0, ev_ci, if_neg (by decide), e1, ev_cv, f6, f7]
    by_cases q1 : L.length = 0
    · rw [if_pos q1]
      simp (disch := omega) only [ev_ck, ev_ci, ev_cv, ev_lt_, ↓reduceIte, ev_lens, ev_ix, ev_nz, ev_cl, ev_cll, ev_add, ev_addl, ev_ladd, ev_mul, ev_mull, ev_lmul, ev_sub, ev_subl, ev_lsub, ev_lt, ev_ltl, ev_llt, ev_le, ev_lel, ev_lle, ev_eq, ev_eql, ev_leq, ev_nm1, ev_nm5, ev_m1n, ev_neg1, ev_ltT, ev_ltF, ev_leT, ev_leF, ev_eqT, ev_eqF, ev_one0, ev_zero1, Nat.reduceAdd, Nat.reduceMul, Nat.reduceSub, ea_pI_eq, ev_pIn, ev_pIe, ea_pI_r, eq_self]
    · rw [if_neg q1]
      by_cases q2 : c0 L = L.length
      · rw [if_pos q2]
        simp (disch := omega) only [ev_ck, ev_ci, ev_cv, ev_lt_, ↓reduceIte, ev_lens, ev_ix, ev_nz, ev_cl, ev_cll, ev_add, ev_addl, ev_ladd, ev_mul, ev_mull, ev_lmul, ev_sub, ev_subl, ev_lsub, ev_lt, ev_ltl, ev_llt, ev_le, ev_lel, ev_lle, ev_eq, ev_eql, ev_leq, ev_nm1, ev_nm5, ev_m1n, ev_neg1, ev_ltT, ev_ltF, ev_leT, ev_leF, ev_eqT, ev_eqF, ev_one0, ev_zero1, Nat.reduceAdd, Nat.reduceMul, Nat.reduceSub, ea_pI_eq, ev_pIn, ev_pIe, ea_pI_r, eq_self]
      · rw [if_neg q2]
        by_cases q3 : c0 L = 0
        · rw [if_pos q3]
          simp (disch := omega) only [ev_ck, ev_ci, ev_cv, ev_lt_, ↓reduceIte, ev_lens, ev_ix, ev_nz, ev_cl, ev_cll, ev_add, ev_addl, ev_ladd, ev_mul, ev_mull, ev_lmul, ev_sub, ev_subl, ev_lsub, ev_lt, ev_ltl, ev_llt, ev_le, ev_lel, ev_lle, ev_eq, ev_eql, ev_leq, ev_nm1, ev_nm5, ev_m1n, ev_neg1, ev_ltT, ev_ltF, ev_leT, ev_leF, ev_eqT, ev_eqF, ev_one0, ev_zero1, Nat.reduceAdd, Nat.reduceMul, Nat.reduceSub, ea_pI_eq, ev_pIn, ev_pIe, ea_pI_r, eq_self]
        · rw [if_neg q3]
          simp (disch := omega) only [ev_ck, ev_ci, ev_cv, ev_lt_, ↓reduceIte, ev_lens, ev_ix, ev_nz, ev_cl, ev_cll, ev_add, ev_addl, ev_ladd, ev_mul, ev_mull, ev_lmul, ev_sub, ev_subl, ev_lsub, ev_lt, ev_ltl, ev_llt, ev_le, ev_lel, ev_lle, ev_eq, ev_eql, ev_leq, ev_nm1, ev_nm5, ev_m1n, ev_neg1, ev_ltT, ev_ltF, ev_leT, ev_leF, ev_eqT, ev_eqF, ev_one0, ev_zero1, Nat.reduceAdd, Nat.reduceMul, Nat.reduceSub, ea_pI_eq, ev_pIn, ev_pIe, ea_pI_r, eq_self]
  · obtain ⟨M4, e4, f4, r4⟩ := mo M3 h3
    refine ⟨M4, ?_, r4.kp⟩
    have gy := gy_fit h3.1 (nI cell) (nI s) (nI kn)
    have lp : ∀ (d k i : Nat), L.length - i = d → i ≤ L.length → d < k → fX11_mended_26 fX11_mended_61 k (nI (c0 (L.take i))) (nI i) M4 = fX11_mended_61 (nI (c0 L)) M4 := by
      intro d
      induction d with
      | zero =>
        intro k i hd hi hk
        obtain ⟨k, rfl⟩ : ∃ f', k = f' + 1 := ⟨k - 1, by omega⟩
        obtain rfl : i = L.length := by omega
        rw [List.take_length]
        simp (disch := omega) only [ev_ck, ev_ci, ev_cv, ev_lt_, ↓reduceIte, ev_lens, ev_ix, ev_nz, ev_cl, ev_cll, ev_add, ev_addl, ev_ladd, ev_mul, ev_mull, ev_lmul, ev_sub, ev_subl, ev_lsub, ev_lt, ev_ltl, ev_llt, ev_le, ev_lel, ev_lle, ev_eq, ev_eql, ev_leq, ev_nm1, ev_nm5, ev_m1n, ev_neg1, ev_ltT, ev_ltF, ev_leT, ev_leF, ev_eqT, ev_eqF, ev_one0, ev_zero1, Nat.reduceAdd, Nat.reduceMul, Nat.reduceSub, ea_pI_eq, ev_pIn, ev_pIe, ea_pI_r, eq_self, fX11_mended_26, f4.1]
      | succ d ih =>
        intro k i hd hi hk
        obtain ⟨k, rfl⟩ : ∃ f', k = f' + 1 := ⟨k - 1, by omega⟩
        have nx := ih k (i + 1) (by omega) (by omega) (by omega)
        have g1 := (f4.2 i (by omega)).2
        have hm := hlm _ (getD_mem (z := (0, 0)) (show i < L.length by omega))
        rw [take_s (by omega), c0_app] at nx
        have y0 := yrP_0 ho hm
        have yl := yrP_le ho hm
        generalize L.getD i (0, 0) = e at nx g1 hm y0 yl
        by_cases hz : e.2 = 0
        · have nx : fX11_mended_26 fX11_mended_61 k (nI (c0 (L.take i) + ((if e.2 = 0 then 1 else 0) + 0))) (nI (i + 1)) M4 = _ := nx
          rw [if_pos hz] at nx
          have hy := y0.mpr hz
          simp (disch := omega) only [ev_ck, ev_ci, ev_cv, ev_lt_, ↓reduceIte, ev_lens, ev_ix, ev_nz, ev_cl, ev_cll, ev_add, ev_addl, ev_ladd, ev_mul, ev_mull, ev_lmul, ev_sub, ev_subl, ev_lsub, ev_lt, ev_ltl, ev_llt, ev_le, ev_lel, ev_lle, ev_eq, ev_eql, ev_leq, ev_nm1, ev_nm5, ev_m1n, ev_neg1, ev_ltT, ev_ltF, ev_leT, ev_leF, ev_eqT, ev_eqF, ev_one0, ev_zero1, Nat.reduceAdd, Nat.reduceMul, Nat.reduceSub, ea_pI_eq, ev_pIn, ev_pIe, ea_pI_r, eq_self, fX11_mended_26, f4.1, g1, fX11_mended_52]
          exact nx
        · have nx : fX11_mended_26 fX11_mended_61 k (nI (c0 (L.take i) + ((if e.2 = 0 then 1 else 0) + 0))) (nI (i + 1)) M4 = _ := nx
          rw [if_neg hz] at nx
          have hy : ¬ yrP v e.2 = 0 := fun q => hz (y0.mp q)
          simp (disch := omega) only [ev_ck, ev_ci, ev_cv, ev_lt_, ↓reduceIte, ev_lens, ev_ix, ev_nz, ev_cl, ev_cll, ev_add, ev_addl, ev_ladd, ev_mul, ev_mull, ev_lmul, ev_sub, ev_subl, ev_lsub, ev_lt, ev_ltl, ev_llt, ev_le, ev_lel, ev_lle, ev_eq, ev_eql, ev_leq, ev_nm1, ev_nm5, ev_m1n, ev_neg1, ev_ltT, ev_ltF, ev_leT, ev_leF, ev_eqT, ev_eqF, ev_one0, ev_zero1, Nat.reduceAdd, Nat.reduceMul, Nat.reduceSub, ea_pI_eq, ev_pIn, ev_pIe, ea_pI_r, eq_self, fX11_mended_26, f4.1, g1, fX11_mended_52]
          exact nx
    have l0 := lp L.length ea_N 0 (by omega) (by omega) (by unfold ea_N; omega)
    have l0 : fX11_mended_26 fX11_mended_61 ea_N 0 0 M4 = _ := l0
    unfold fX11_mended fX11_mended_0
    rw [gy, h0, ev_ci, if_neg (by decide), e4, ev_cv, l0]
    unfold fX11_mended_61
    rw [f4.1]
    by_cases q1 : L.length = 0
    · rw [if_pos q1]
      simp (disch := omega) only [ev_ck, ev_ci, ev_cv, ev_lt_, ↓reduceIte, ev_lens, ev_ix, ev_nz, ev_cl, ev_cll, ev_add, ev_addl, ev_ladd, ev_mul, ev_mull, ev_lmul, ev_sub, ev_subl, ev_lsub, ev_lt, ev_ltl, ev_llt, ev_le, ev_lel, ev_lle, ev_eq, ev_eql, ev_leq, ev_nm1, ev_nm5, ev_m1n, ev_neg1, ev_ltT, ev_ltF, ev_leT, ev_leF, ev_eqT, ev_eqF, ev_one0, ev_zero1, Nat.reduceAdd, Nat.reduceMul, Nat.reduceSub, ea_pI_eq, ev_pIn, ev_pIe, ea_pI_r, eq_self]
    · rw [if_neg q1]
      by_cases q2 : c0 L = L.length
      · rw [if_pos q2]
        simp (disch := omega) only [ev_ck, ev_ci, ev_cv, ev_lt_, ↓reduceIte, ev_lens, ev_ix, ev_nz, ev_cl, ev_cll, ev_add, ev_addl, ev_ladd, ev_mul, ev_mull, ev_lmul, ev_sub, ev_subl, ev_lsub, ev_lt, ev_ltl, ev_llt, ev_le, ev_lel, ev_lle, ev_eq, ev_eql, ev_leq, ev_nm1, ev_nm5, ev_m1n, ev_neg1, ev_ltT, ev_ltF, ev_leT, ev_leF, ev_eqT, ev_eqF, ev_one0, ev_zero1, Nat.reduceAdd, Nat.reduceMul, Nat.reduceSub, ea_pI_eq, ev_pIn, ev_pIe, ea_pI_r, eq_self]
      · rw [if_neg q2]
        by_cases q3 : c0 L = 0
        · rw [if_pos q3]
          simp (disch := omega) only [ev_ck, ev_ci, ev_cv, ev_lt_, ↓reduceIte, ev_lens, ev_ix, ev_nz, ev_cl, ev_cll, ev_add, ev_addl, ev_ladd, ev_mul, ev_mull, ev_lmul, ev_sub, ev_subl, ev_lsub, ev_lt, ev_ltl, ev_llt, ev_le, ev_lel, ev_lle, ev_eq, ev_eql, ev_leq, ev_nm1, ev_nm5, ev_m1n, ev_neg1, ev_ltT, ev_ltF, ev_leT, ev_leF, ev_eqT, ev_eqF, ev_one0, ev_zero1, Nat.reduceAdd, Nat.reduceMul, Nat.reduceSub, ea_pI_eq, ev_pIn, ev_pIe, ea_pI_r, eq_self]
        · rw [if_neg q3]
          simp (disch := omega) only [ev_ck, ev_ci, ev_cv, ev_lt_, ↓reduceIte, ev_lens, ev_ix, ev_nz, ev_cl, ev_cll, ev_add, ev_addl, ev_ladd, ev_mul, ev_mull, ev_lmul, ev_sub, ev_subl, ev_lsub, ev_lt, ev_ltl, ev_llt, ev_le, ev_lel, ev_lle, ev_eq, ev_eql, ev_leq, ev_nm1, ev_nm5, ev_m1n, ev_neg1, ev_ltT, ev_ltF, ev_leT, ev_leF, ev_eqT, ev_eqF, ev_one0, ev_zero1, Nat.reduceAdd, Nat.reduceMul, Nat.reduceSub, ea_pI_eq, ev_pIn, ev_pIe, ea_pI_r, eq_self]
