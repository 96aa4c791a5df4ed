def stv (n : Nat → Nat) (v : Nat → Nat → Nat) (th : Nat) (o w q : Nat → Nat) (l t r : Nat → Nat → Nat) (e s bd cell i : Nat) : Option (Nat × Nat × Nat × Nat) := fda (eyE v e) (fun c => l i (3 + c)) (fun c => grv (fun c x => sp_col v o w x 0 c) (LL n v th o w q l t r s 999 cell) bd c) (v 0 1 / 10) (v 0 2 / 10) (v 0 0 / 10 + 1)
theorem sz_thrown (x1 x2 x3 x4 x5 : Int32) : ea_st InvZ (fX10_thrown x1 x2 x3 x4 x5) (fX11_thrown x1 x2 x3 x4 x5) := by
  refine ea_qz (fun M c n v th o w q l t r hC => ?_)
  have ho := hC.1.2.2.2.1
  have hcl : n 0 * n 1 ≤ 48 := Nat.mul_le_mul ho.1.2 ho.2.1.2
  have gx1 := gx_cell hC.1 x1
  have gx2 := gx_throw hC.1 x2 x3 x4
  have gx5 : fX10_isWithin x5 0 3 M = some (pb x5 0 (nI 4 - 1), M) := px_in x5 0 3 M
  rcases pb_01 x1 0 (nI (n 0 * n 1) - 1) with b1 | b1
  · refine ⟨-2, ⟨M, by unfold fX10_thrown fX10_thrown_0; rw [gx1, b1, ev_ci, if_pos rfl], Kp.rf M⟩, fun M1 h1 => ⟨M1, ?_, Kp.rf M1⟩⟩
    have gy1 := gy_cell h1.1 x1
    unfold fX11_thrown fX11_thrown_0
    rw [gy1, b1, ev_ci, if_pos rfl]
  rcases tk3_cs ho x2 x3 x4 with ⟨b2, hor⟩ | ⟨b2, ⟨p1, p2, p3⟩, e, s, bd, he, hs, hbd, rfl, rfl, rfl⟩
  · refine ⟨-2, ⟨M, by unfold fX10_thrown fX10_thrown_0; rw [gx1, b1, ev_ci, if_neg (by decide), gx2, b2, ev_ci, if_pos rfl], Kp.rf M⟩, fun M1 h1 => ⟨M1, ?_, Kp.rf M1⟩⟩
    have gy1 := gy_cell h1.1 x1
    have gy2 := gy_eye h1.1 x2
    have gy3 := gy_story h1.1 x3
    have gy4 := gy_bound (M := M1) x4
    unfold fX11_thrown fX11_thrown_0
    rcases hor with g | ⟨g, g2 | ⟨g2, g3⟩⟩
    · rw [gy1, b1, ev_ci, if_neg (by decide), gy2, g, ev_ci, if_pos rfl]
    · rw [gy1, b1, ev_ci, if_neg (by decide), gy2, g, ev_ci, if_neg (by decide), gy3, g2, ev_ci, if_pos rfl]
    · rw [gy1, b1, ev_ci, if_neg (by decide), gy2, g, ev_ci, if_neg (by decide), gy3, g2, ev_ci, if_neg (by decide), gy4, g3, ev_ci, if_pos rfl]
  have hy : ∀ M1, Ctx M1 c n v th o w q l t r → fX11_thrown x1 (nI e) (nI s) (nI bd) x5 M1 = ea_ci (fX11_in x5 (0 : Int32) (3 : Int32) M1) (fun r18 M19 => if r18 = 0 then (some ((-2 : Int32), M19)) else (ea_ci (fX11_frontOf x1 M19) (fun r22 M23 => if 0 ≤ r22 then (ea_cv (fX11_throwLight x1 r22 (nI e) (nI s) (nI bd) M23) (fun M26 => if x5 = (3 : Int32) then (some (M26.1 100 46, M26)) else (ea_ck (ea_ix x5 (ea_len 129)) (some (M26.1 129 x5.toNatClampNeg, M26))))) else (some ((-1 : Int32), M23))))) := by
    intro M1 h1
    have gy1 := gy_cell h1.1 x1
    have gy2 := gy_eye h1.1 (nI e)
    have gy3 := gy_story h1.1 (nI s)
    have gy4 := gy_bound (M := M1) (nI bd)
    unfold fX11_thrown fX11_thrown_0
    rw [gy1, b1, ev_ci, if_neg (by decide), gy2, p1, ev_ci, if_neg (by decide), gy3, p2, ev_ci, if_neg (by decide), gy4, p3, ev_ci, if_neg (by decide)]
  rcases pb_01 x5 0 (nI 4 - 1) with b5 | b5
  · refine ⟨-2, ⟨M, by unfold fX10_thrown fX10_thrown_0; rw [gx1, b1, ev_ci, if_neg (by decide), gx2, b2, ev_ci, if_neg (by decide), gx5, b5, ev_ci, if_pos rfl], Kp.rf M⟩, fun M1 h1 => ⟨M1, ?_, Kp.rf M1⟩⟩
    have gy5 : fX11_in x5 0 3 M1 = some (pb x5 0 (nI 4 - 1), M1) := py_in x5 0 3 M1
    rw [hy M1 h1, gy5, b5, ev_ci, if_pos rfl]
  obtain ⟨cell, hcell, rfl⟩ := pb_nat0 (by omega) b1
  obtain ⟨wh, hwh, rfl⟩ := pb_nat0 (by decide) b5
  have hc48 : cell < 48 := by omega
  have headX : fX10_thrown (nI cell) (nI e) (nI s) (nI bd) (nI wh) M = ea_ci (fX8_latestLook 30 (nI cell) 0 999 M) (fun r14 M15 => ea_ci (fX8_isSeen 30 r14 M15) (fun r17 M18 => (fun (x y : Int32) (N : eM) => if y = 0 then (some ((-1 : Int32), N)) else (ea_cv (fX10_throwLight (nI cell) x (nI e) (nI s) (nI bd) N) (fun M21 => if nI wh = (3 : Int32) then (some (M21.1 72 3, M21)) else (ea_ck (ea_ix (nI wh) (ea_len 75)) (some (M21.1 75 (nI wh).toNatClampNeg, M21)))))) r14 r17 M18)) := by
    unfold fX10_thrown fX10_thrown_0
    rw [gx1, b1, ev_ci, if_neg (by decide), gx2, b2, ev_ci, if_neg (by decide), gx5, b5, ev_ci, if_neg (by decide)]
  rw [headX, px_fro hC hc48 _ (fun x => (if_pos rfl).trans (if_pos rfl).symm)]
  have hy2 : ∀ M1, Ctx M1 c n v th o w q l t r → fX11_thrown (nI cell) (nI e) (nI s) (nI bd) (nI wh) M1 = ea_ci (fX11_frontOf (nI cell) M1) (fun r22 M23 => if 0 ≤ r22 then (ea_cv (fX11_throwLight (nI cell) r22 (nI e) (nI s) (nI bd) M23) (fun M26 => if nI wh = (3 : Int32) then (some (M26.1 100 46, M26)) else (ea_ck (ea_ix (nI wh) (ea_len 129)) (some (M26.1 129 (nI wh).toNatClampNeg, M26))))) else (some ((-1 : Int32), M23))) := by
    intro M1 h1
    have gy5 : fX11_in (nI wh) 0 3 M1 = some (pb (nI wh) 0 (nI 4 - 1), M1) := py_in (nI wh) 0 3 M1
    rw [hy M1 h1, gy5, b5, ev_ci, if_neg (by decide)]
  cases hfr : fro l q cell with
  | none =>
    refine ⟨-1, ⟨M, if_pos rfl, Kp.rf M⟩, fun M1 h1 => ⟨M1, ?_, Kp.rf M1⟩⟩
    have fr2 : fX11_frontOf (nI cell) M1 = some (-1, M1) := by rw [py_fro h1 hc48, hfr]
    rw [hy2 M1 h1, fr2, ev_ci, if_neg (by decide)]
  | some i =>
    obtain ⟨hi, hg⟩ := fro_in hfr
    have hq := hC.2.1.1.1
    obtain ⟨m, a', b', c', hst⟩ := fda_some (E := eyE v e) (F := fun c => l i (3 + c)) (G := fun c => grv (fun c x => sp_col v o w x 0 c) (LL n v th o w q l t r s 999 cell) bd c) (v 0 1 / 10) (v 0 2 / 10) (v 0 0 / 10)
    obtain ⟨M1, e1, s1, k1⟩ := px_throw hC hc48 hi hg he hs hbd
    rw [hst] at s1
    have s3 : M1.1 72 3 = nI m := s1.1
    have s75 : M1.1 75 0 = nI (a' * 10) ∧ M1.1 75 1 = nI (b' * 10) ∧ M1.1 75 2 = nI (c' * 10) := s1.2.2
    refine ⟨if wh = 3 then nI m else if wh = 0 then nI (a' * 10) else if wh = 1 then nI (b' * 10) else nI (c' * 10), ⟨M1, ?_, k1⟩, fun M2 h2 => ?_⟩
    · show (if (1 : Int32) = 0 then _ else _) = _
      rw [if_neg (by decide), e1, ev_cv]
      rcases (show wh = 0 ∨ wh = 1 ∨ wh = 2 ∨ wh = 3 by omega) with rfl | rfl | rfl | rfl
      · simp (disch := omega) only [ev_ck, ev_ci, ev_cv, ev_lt_, ↓reduceIte, ev_lens, ev_ix, ev_nz, ev_cl, ev_cll, ev_add, ev_addl, ev_ladd, ev_mul, ev_mull, ev_lmul, ev_sub, ev_subl, ev_lsub, ev_lt, ev_ltl, ev_llt, ev_le, ev_lel, ev_lle, ev_eq, ev_eql, ev_leq, ev_nm1, ev_nm5, ev_m1n, ev_neg1, ev_ltT, ev_ltF, ev_leT, ev_leF, ev_eqT, ev_eqF, ev_one0, ev_zero1, Nat.reduceAdd, Nat.reduceMul, Nat.reduceSub, ea_pI_eq, ev_pIn, ev_pIe, ea_pI_r, eq_self, s75.1]
      · simp (disch := omega) only [ev_ck, ev_ci, ev_cv, ev_lt_, ↓reduceIte, ev_lens, ev_ix, ev_nz, ev_cl, ev_cll, ev_add, ev_addl, ev_ladd, ev_mul, ev_mull, ev_lmul, ev_sub, ev_subl, ev_lsub, ev_lt, ev_ltl, ev_llt, ev_le, ev_lel, ev_lle, ev_eq, ev_eql, ev_leq, ev_nm1, ev_nm5, ev_m1n, ev_neg1, ev_ltT, ev_ltF, ev_leT, ev_leF, ev_eqT, ev_eqF, ev_one0, ev_zero1, Nat.reduceAdd, Nat.reduceMul, Nat.reduceSub, ea_pI_eq, ev_pIn, ev_pIe, ea_pI_r, eq_self, s75.2.1]
      · simp (disch := omega) only [ev_ck, ev_ci, ev_cv, ev_lt_, ↓reduceIte, ev_lens, ev_ix, ev_nz, ev_cl, ev_cll, ev_add, ev_addl, ev_ladd, ev_mul, ev_mull, ev_lmul, ev_sub, ev_subl, ev_lsub, ev_lt, ev_ltl, ev_llt, ev_le, ev_lel, ev_lle, ev_eq, ev_eql, ev_leq, ev_nm1, ev_nm5, ev_m1n, ev_neg1, ev_ltT, ev_ltF, ev_leT, ev_leF, ev_eqT, ev_eqF, ev_one0, ev_zero1, Nat.reduceAdd, Nat.reduceMul, Nat.reduceSub, ea_pI_eq, ev_pIn, ev_pIe, ea_pI_r, eq_self, s75.2.2]
      · simp (disch := omega) only [ev_ck, ev_ci, ev_cv, ev_lt_, ↓reduceIte, ev_lens, ev_ix, ev_nz, ev_cl, ev_cll, ev_add, ev_addl, ev_ladd, ev_mul, ev_mull, ev_lmul, ev_sub, ev_subl, ev_lsub, ev_lt, ev_ltl, ev_llt, ev_le, ev_lel, ev_lle, ev_eq, ev_eql, ev_leq, ev_nm1, ev_nm5, ev_m1n, ev_neg1, ev_ltT, ev_ltF, ev_leT, ev_leF, ev_eqT, ev_eqF, ev_one0, ev_zero1, Nat.reduceAdd, Nat.reduceMul, Nat.reduceSub, ea_pI_eq, ev_pIn, ev_pIe, ea_pI_r, eq_self, s3]
    · obtain ⟨M3, e3, s3', k3⟩ := py_throw h2 hc48 hi he hs hbd
      obtain ⟨t46, t0, t1, t2⟩ := s3' _ hst.symm
      have t46 : M3.1 100 46 = nI m := t46
      have t0 : M3.1 129 0 = nI (a' * 10) := t0
      have t1 : M3.1 129 1 = nI (b' * 10) := t1
      have t2 : M3.1 129 2 = nI (c' * 10) := t2
      refine ⟨M3, ?_, k3⟩
      have fr2 : fX11_frontOf (nI cell) M2 = some (nI (4 + 7 * i + 3), M2) := by rw [py_fro h2 hc48, hfr]
      rw [hy2 M2 h2, fr2, ev_ci, if_pos (nI_pos' (by omega)), e3, ev_cv]
      rcases (show wh = 0 ∨ wh = 1 ∨ wh = 2 ∨ wh = 3 by omega) with rfl | rfl | rfl | rfl
      · simp (disch := omega) only [ev_ck, ev_ci, ev_cv, ev_lt_, ↓reduceIte, ev_lens, ev_ix, ev_nz, ev_cl, ev_cll, ev_add, ev_addl, ev_ladd, ev_mul, ev_mull, ev_lmul, ev_sub, ev_subl, ev_lsub, ev_lt, ev_ltl, ev_llt, ev_le, ev_lel, ev_lle, ev_eq, ev_eql, ev_leq, ev_nm1, ev_nm5, ev_m1n, ev_neg1, ev_ltT, ev_ltF, ev_leT, ev_leF, ev_eqT, ev_eqF, ev_one0, ev_zero1, Nat.reduceAdd, Nat.reduceMul, Nat.reduceSub, ea_pI_eq, ev_pIn, ev_pIe, ea_pI_r, eq_self, t0]
      · simp (disch := omega) only [ev_ck, ev_ci, ev_cv, ev_lt_, ↓reduceIte, ev_lens, ev_ix, ev_nz, ev_cl, ev_cll, ev_add, ev_addl, ev_ladd, ev_mul, ev_mull, ev_lmul, ev_sub, ev_subl, ev_lsub, ev_lt, ev_ltl, ev_llt, ev_le, ev_lel, ev_lle, ev_eq, ev_eql, ev_leq, ev_nm1, ev_nm5, ev_m1n, ev_neg1, ev_ltT, ev_ltF, ev_leT, ev_leF, ev_eqT, ev_eqF, ev_one0, ev_zero1, Nat.reduceAdd, Nat.reduceMul, Nat.reduceSub, ea_pI_eq, ev_pIn, ev_pIe, ea_pI_r, eq_self, t1]
      · simp (disch := omega) only [ev_ck, ev_ci, ev_cv, ev_lt_, ↓reduceIte, ev_lens, ev_ix, ev_nz, ev_cl, ev_cll, ev_add, ev_addl, ev_ladd, ev_mul, ev_mull, ev_lmul, ev_sub, ev_subl, ev_lsub, ev_lt, ev_ltl, ev_llt, ev_le, ev_lel, ev_lle, ev_eq, ev_eql, ev_leq, ev_nm1, ev_nm5, ev_m1n, ev_neg1, ev_ltT, ev_ltF, ev_leT, ev_leF, ev_eqT, ev_eqF, ev_one0, ev_zero1, Nat.reduceAdd, Nat.reduceMul, Nat.reduceSub, ea_pI_eq, ev_pIn, ev_pIe, ea_pI_r, eq_self, t2]
      · simp (disch := omega) only [ev_ck, ev_ci, ev_cv, ev_lt_, ↓reduceIte, ev_lens, ev_ix, ev_nz, ev_cl, ev_cll, ev_add, ev_addl, ev_ladd, ev_mul, ev_mull, ev_lmul, ev_sub, ev_subl, ev_lsub, ev_lt, ev_ltl, ev_llt, ev_le, ev_lel, ev_lle, ev_eq, ev_eql, ev_leq, ev_nm1, ev_nm5, ev_m1n, ev_neg1, ev_ltT, ev_ltF, ev_leT, ev_leF, ev_eqT, ev_eqF, ev_one0, ev_zero1, Nat.reduceAdd, Nat.reduceMul, Nat.reduceSub, ea_pI_eq, ev_pIn, ev_pIe, ea_pI_r, eq_self, t46]
def cnb (n : Nat → Nat) (v : Nat → Nat → Nat) (th : Nat) (o w q : Nat → Nat) (l t r : Nat → Nat → Nat) (e s bd mu cell : Nat) : Bool := match fro l q cell with
  | none => false
  | some i => decide (mu < mvv (stv n v th o w q l t r e s bd cell i))
theorem sz_cannot (x1 x2 x3 x4 : Int32) : ea_st InvZ (fX10_cannot x1 x2 x3 x4) (fX11_cannot x1 x2 x3 x4) := by
  refine ea_qz (fun M c n v th o w q l t r hC => ?_)
  have ho := hC.1.2.2.2.1
  have hcl : n 0 * n 1 ≤ 48 := Nat.mul_le_mul ho.1.2 ho.2.1.2
  have hcc := hC.1.1
  have gx2 := gx_throw hC.1 x1 x2 x3
  have gx4 : fX10_isWithin x4 0 9999 M = some (pb x4 0 (nI 10000 - 1), M) := px_in x4 0 9999 M
  rcases tk3_cs ho x1 x2 x3 with ⟨b2, hor⟩ | ⟨b2, ⟨p1, p2, p3⟩, e, s, bd, he, hs, hbd, rfl, rfl, rfl⟩
  · refine ⟨-2, ⟨M, by unfold fX10_cannot fX10_cannot_0; rw [gx2, b2, ev_ci, if_pos rfl], Kp.rf M⟩, fun M1 h1 => ⟨M1, ?_, Kp.rf M1⟩⟩
    have gy2 := gy_eye h1.1 x1
    have gy3 := gy_story h1.1 x2
    have gy4 := gy_bound (M := M1) x3
    unfold fX11_cannot fX11_cannot_0
    rcases hor with g | ⟨g, g2 | ⟨g2, g3⟩⟩
    · rw [gy2, g, ev_ci, if_pos rfl]
    · rw [gy2, g, ev_ci, if_neg (by decide), gy3, g2, ev_ci, if_pos rfl]
    · rw [gy2, g, ev_ci, if_neg (by decide), gy3, g2, ev_ci, if_neg (by decide), gy4, g3, ev_ci, if_pos rfl]
  have hy : ∀ M1, Ctx M1 c n v th o w q l t r → fX11_cannot (nI e) (nI s) (nI bd) x4 M1 = ea_ci (fX11_in x4 (0 : Int32) (9999 : Int32) M1) (fun r14 M15 => if r14 = 0 then (some ((-2 : Int32), M15)) else (fX11_cannot_44 ea_N (nI e) (nI s) (nI bd) x4 (0 : Int32) (0 : Int32) M15)) := by
    intro M1 h1
    have gy2 := gy_eye h1.1 (nI e)
    have gy3 := gy_story h1.1 (nI s)
    have gy4 := gy_bound (M := M1) (nI bd)
    unfold fX11_cannot fX11_cannot_0
    rw [gy2, p1, ev_ci, if_neg (by decide), gy3, p2, ev_ci, if_neg (by decide), gy4, p3, ev_ci, if_neg (by decide)]
  rcases pb_01 x4 0 (nI 10000 - 1) with b5 | b5
  · refine ⟨-2, ⟨M, by unfold fX10_cannot fX10_cannot_0; rw [gx2, b2, ev_ci, if_neg (by decide), gx4, b5, ev_ci, if_pos rfl], Kp.rf M⟩, fun M1 h1 => ⟨M1, ?_, Kp.rf M1⟩⟩
    have gy5 : fX11_in x4 0 9999 M1 = some (pb x4 0 (nI 10000 - 1), M1) := py_in x4 0 9999 M1
    rw [hy M1 h1, gy5, b5, ev_ci, if_pos rfl]
  obtain ⟨mu, hmu, rfl⟩ := pb_nat0 (by decide) b5
  have hst := fun cell i => fda_some (E := eyE v e) (F := fun c => l i (3 + c)) (G := fun c => grv (fun c x => sp_col v o w x 0 c) (LL n v th o w q l t r s 999 cell) bd c) (v 0 1 / 10) (v 0 2 / 10) (v 0 0 / 10)
  have hmv : ∀ cell i, mvv (stv n v th o w q l t r e s bd cell i) ≤ 1000000 ∨ True := fun _ _ => Or.inr trivial
  refine ⟨nI (cnt (cnb n v th o w q l t r e s bd mu) (n 0 * n 1)), ?_, fun M3 h3 => ?_⟩
  · have gcs := fun M1 (h1 : Ctx M1 c n v th o w q l t r) => gx_cells h1.1
    generalize hN : n 0 * n 1 = N at hcl gcs
    have lp : ∀ (d k j : Nat) (M1 : eM), N - j = d → j ≤ N → d < k → Kp M M1 → ∃ M2, fX10_cannot_31 k (nI e) (nI s) (nI bd) (nI mu) (nI (cnt (cnb n v th o w q l t r e s bd mu) j)) (nI j) M1 = some (nI (cnt (cnb n v th o w q l t r e s bd mu) N), M2) ∧ Kp M M2 := by
      intro d
      induction d with
      | zero =>
        intro k j M1 hd hj hk hK
        obtain ⟨k, rfl⟩ : ∃ f', k = f' + 1 := ⟨k - 1, by omega⟩
        obtain rfl : j = N := by omega
        have gc := gcs M1 (hC.kp hK)
        refine ⟨M1, ?_, hK⟩
        rw [fX10_cannot_31, (hC.kp hK).1.2.1]
        simp (disch := omega) only [ev_ck, ev_ci, ev_cv, ev_lt_, ↓reduceIte, ev_lens, ev_ix, ev_nz, ev_cl, ev_cll, ev_add, ev_addl, ev_ladd, ev_mul, ev_mull, ev_lmul, ev_sub, ev_subl, ev_lsub, ev_lt, ev_ltl, ev_llt, ev_le, ev_lel, ev_lle, ev_eq, ev_eql, ev_leq, ev_nm1, ev_nm5, ev_m1n, ev_neg1, ev_ltT, ev_ltF, ev_leT, ev_leF, ev_eqT, ev_eqF, ev_one0, ev_zero1, Nat.reduceAdd, Nat.reduceMul, Nat.reduceSub, ea_pI_eq, ev_pIn, ev_pIe, ea_pI_r, eq_self, pn_is hcc, gc]
      | succ d ih =>
        intro k j M1 hd hj hk hK
        obtain ⟨k, rfl⟩ : ∃ f', k = f' + 1 := ⟨k - 1, by omega⟩
        have hC1 := hC.kp hK
        have gc := gcs M1 hC1
        have hj48 : j < 48 := by omega
        have hle := cnt_le (cnb n v th o w q l t r e s bd mu) j
        have pf := px_fro hC1 hj48 (fun (x y : Int32) (N : eM) => if y = 0 then (fX10_cannot_106 (fX10_cannot_31 k) (nI e) (nI s) (nI bd) (nI mu) (nI (cnt (cnb n v th o w q l t r e s bd mu) j)) (nI j) N) else (ea_cv (fX10_throwLight (nI j) x (nI e) (nI s) (nI bd) N) (fun M14 => if (M14.1 72 3) ≤ (nI mu) then (fX10_cannot_103 (fX10_cannot_31 k) (nI e) (nI s) (nI bd) (nI mu) (nI j) (0 : Int32) (nI (cnt (cnb n v th o w q l t r e s bd mu) j)) M14) else (fX10_cannot_103 (fX10_cannot_31 k) (nI e) (nI s) (nI bd) (nI mu) (nI j) (1 : Int32) (nI (cnt (cnb n v th o w q l t r e s bd mu) j)) M14)))) (fun x => (if_pos rfl).trans (if_pos rfl).symm)
        have ecN : fro l q j = none → cnb n v th o w q l t r e s bd mu j = false := fun e0 => by unfold cnb; rw [e0]
        have ecS : ∀ i, fro l q j = some i → cnb n v th o w q l t r e s bd mu j = decide (mu < mvv (stv n v th o w q l t r e s bd j i)) := fun i e0 => by unfold cnb; rw [e0]
        have go : ∃ M2, (match fro l q j with
            | none => fX10_cannot_106 (fX10_cannot_31 k) (nI e) (nI s) (nI bd) (nI mu) (nI (cnt (cnb n v th o w q l t r e s bd mu) j)) (nI j) M1
            | some i => (ea_cv (fX10_throwLight (nI j) (nI i) (nI e) (nI s) (nI bd) M1) (fun M14 => if (M14.1 72 3) ≤ (nI mu) then (fX10_cannot_103 (fX10_cannot_31 k) (nI e) (nI s) (nI bd) (nI mu) (nI j) (0 : Int32) (nI (cnt (cnb n v th o w q l t r e s bd mu) j)) M14) else (fX10_cannot_103 (fX10_cannot_31 k) (nI e) (nI s) (nI bd) (nI mu) (nI j) (1 : Int32) (nI (cnt (cnb n v th o w q l t r e s bd mu) j)) M14)))) = some (nI (cnt (cnb n v th o w q l t r e s bd mu) N), M2) ∧ Kp M M2 := by
          cases hfr : fro l q j with
          | none =>
            have ecn := ecN hfr
            obtain ⟨M2, q1, q2⟩ := ih k (j + 1) M1 (by omega) (by omega) (by omega) hK
            rw [cnt_s, ecn, if_neg (by decide)] at q1
            refine ⟨M2, ?_, q2⟩
            unfold fX10_cannot_106
            rw [show nI j + 1 = nI (j + 1) from nI_add j 1]
            exact q1
          | some i =>
            have ecn := ecS i hfr
            obtain ⟨hi, hg⟩ := fro_in hfr
            obtain ⟨M4, e4, s4, k4⟩ := px_throw hC1 hj48 hi hg he hs hbd
            obtain ⟨m, a', b', c', hs4⟩ := hst j i
            have ecn : cnb n v th o w q l t r e s bd mu j = decide (mu < m) := by rw [ecn]; unfold stv; rw [hs4]; rfl
            have hok4 : sok (some (m, a', b', c')) := by
              rw [← hs4]
              have hv := ho.2.2.2.2.2.2.2.2.2.1
              have v0 := hv 0 (by decide)
              have v1 := hv 1 (by decide)
              have v2 := hv 2 (by decide)
              refine fda_ok ⟨fun k c hk hc => ho.2.2.2.2.2.2.2.2.2.2.2.2.2.2 _ (by omega), fun c hc => (hC.2.1.1.2.2.2.2.1 i hi).2.2.2.1 c hc, fun c hc => ?_⟩ (by omega) (by omega) _ (by omega)
              cases hLL : LL n v th o w q l t r s 999 j with
              | nil => show 50 ≤ 99; decide
              | cons e R =>
                have b1 := mn_le (f := fun x => sp_col v o w x 0 c) (fun x => sp_col_le) (e :: R)
                have b2 := mx_le (f := fun x => sp_col v o w x 0 c) (fun x => sp_col_le) (e :: R)
                show (if _ then _ else _) ≤ 99
                by_cases hx : (tlk (fun c x => sp_col v o w x 0 c) (e :: R) bd 0 && (tlk (fun c x => sp_col v o w x 0 c) (e :: R) bd 1 && tlk (fun c x => sp_col v o w x 0 c) (e :: R) bd 2)) = true
                · rw [if_pos hx]; show (mn (fun x => sp_col v o w x 0 c) (e :: R) + mx (fun x => sp_col v o w x 0 c) (e :: R)) / 2 ≤ 99; omega
                · rw [if_neg hx]; omega
            have hm5 : m ≤ 5346 := hok4.1
            rw [hs4] at s4
            have s3 : M4.1 72 3 = nI m := s4.1
            obtain ⟨M2, q1, q2⟩ := ih k (j + 1) M4 (by omega) (by omega) (by omega) (hK.trans k4)
            rw [cnt_s, ecn] at q1
            refine ⟨M2, ?_, q2⟩
            show ea_cv (fX10_throwLight (nI j) (nI i) (nI e) (nI s) (nI bd) M1) _ = _
            rw [e4, ev_cv, s3]
            by_cases hmm : mu < m
            · rw [decide_eq_true hmm, if_pos rfl] at q1
              simp (disch := omega) only [ev_ck, ev_ci, ev_cv, ev_lt_, ↓reduceIte, ev_lens, ev_ix, ev_nz, ev_cl, ev_cll, ev_add, ev_addl, ev_ladd, ev_mul, ev_mull, ev_lmul, ev_sub, ev_subl, ev_lsub, ev_lt, ev_ltl, ev_llt, ev_le, ev_lel, ev_lle, ev_eq, ev_eql, ev_leq, ev_nm1, ev_nm5, ev_m1n, ev_neg1, ev_ltT, ev_ltF, ev_leT, ev_leF, ev_eqT, ev_eqF, ev_one0, ev_zero1, Nat.reduceAdd, Nat.reduceMul, Nat.reduceSub, ea_pI_eq, ev_pIn, ev_pIe, ea_pI_r, eq_self, fX10_cannot_103, fX10_cannot_106]
              exact q1
            · rw [decide_eq_false hmm, if_neg (by decide)] at q1
              simp (disch := omega) only [ev_ck, ev_ci, ev_cv, ev_lt_, ↓reduceIte, ev_lens, ev_ix, ev_nz, ev_cl, ev_cll, ev_add, ev_addl, ev_ladd, ev_mul, ev_mull, ev_lmul, ev_sub, ev_subl, ev_lsub, ev_lt, ev_ltl, ev_llt, ev_le, ev_lel, ev_lle, ev_eq, ev_eql, ev_leq, ev_nm1, ev_nm5, ev_m1n, ev_neg1, ev_ltT, ev_ltF, ev_leT, ev_leF, ev_eqT, ev_eqF, ev_one0, ev_zero1, Nat.reduceAdd, Nat.reduceMul, Nat.reduceSub, ea_pI_eq, ev_pIn, ev_pIe, ea_pI_r, eq_self, fX10_cannot_103, fX10_cannot_106]
              exact q1
        obtain ⟨M2, q1, q2⟩ := go
        refine ⟨M2, ?_, q2⟩
        rw [fX10_cannot_31, hC1.1.2.1, ea_ck_t (pn_is hcc), gc, ev_ci, if_neg (by rw [pn_leI (by omega) (by omega)]; omega)]
        refine pf.trans ?_
        rw [← q1]
        cases fro l q j with
        | none => exact if_pos rfl
        | some i => exact if_neg (by decide)
    obtain ⟨M2, e2, k2⟩ := lp N ea_N 0 M (by omega) (by omega) (by unfold ea_N; omega) (Kp.rf M)
    refine ⟨M2, ?_, k2⟩
    unfold fX10_cannot fX10_cannot_0
    rw [gx2, b2, ev_ci, if_neg (by decide), gx4, b5, ev_ci, if_neg (by decide)]
    exact e2
  · have gcs := fun M1 (h1 : Ctx M1 c n v th o w q l t r) => gy_cells h1.1
    have gy5 : fX11_in (nI mu) 0 9999 M3 = some (pb (nI mu) 0 (nI 10000 - 1), M3) := py_in (nI mu) 0 9999 M3
    generalize hN : n 0 * n 1 = N at hcl gcs
    have lp : ∀ (d k j : Nat) (M1 : eM), N - j = d → j ≤ N → d < k → Kp M3 M1 → ∃ M2, fX11_cannot_44 k (nI e) (nI s) (nI bd) (nI mu) (nI (cnt (cnb n v th o w q l t r e s bd mu) j)) (nI j) M1 = some (nI (cnt (cnb n v th o w q l t r e s bd mu) N), M2) ∧ Kp M3 M2 := by
      intro d
      induction d with
      | zero =>
        intro k j M1 hd hj hk hK
        obtain ⟨k, rfl⟩ : ∃ f', k = f' + 1 := ⟨k - 1, by omega⟩
        obtain rfl : j = N := by omega
        have gc := gcs M1 (h3.kp hK)
        refine ⟨M1, ?_, hK⟩
        simp (disch := omega) only [ev_ck, ev_ci, ev_cv, ev_lt_, ↓reduceIte, ev_lens, ev_ix, ev_nz, ev_cl, ev_cll, ev_add, ev_addl, ev_ladd, ev_mul, ev_mull, ev_lmul, ev_sub, ev_subl, ev_lsub, ev_lt, ev_ltl, ev_llt, ev_le, ev_lel, ev_lle, ev_eq, ev_eql, ev_leq, ev_nm1, ev_nm5, ev_m1n, ev_neg1, ev_ltT, ev_ltF, ev_leT, ev_leF, ev_eqT, ev_eqF, ev_one0, ev_zero1, Nat.reduceAdd, Nat.reduceMul, Nat.reduceSub, ea_pI_eq, ev_pIn, ev_pIe, ea_pI_r, eq_self, fX11_cannot_44, gc]
      | succ d ih =>
        intro k j M1 hd hj hk hK
        obtain ⟨k, rfl⟩ : ∃ f', k = f' + 1 := ⟨k - 1, by omega⟩
        have hC1 := h3.kp hK
        have gc := gcs M1 hC1
        have hj48 : j < 48 := by omega
        have hle := cnt_le (cnb n v th o w q l t r e s bd mu) j
        have pf := py_fro hC1 hj48
        have hq := hC.2.1.1.1
        have ecN : fro l q j = none → cnb n v th o w q l t r e s bd mu j = false := fun e0 => by unfold cnb; rw [e0]
        have ecS : ∀ i, fro l q j = some i → cnb n v th o w q l t r e s bd mu j = decide (mu < mvv (stv n v th o w q l t r e s bd j i)) := fun i e0 => by unfold cnb; rw [e0]
        rw [fX11_cannot_44, gc, ev_ci, if_neg (by rw [pn_leI (by omega) (by omega)]; omega)]
        cases hfr : fro l q j with
        | none =>
          have ecn := ecN hfr
          rw [hfr] at pf
          have pf : fX11_frontOf (nI j) M1 = some (-1, M1) := pf
          obtain ⟨M2, q1, q2⟩ := ih k (j + 1) M1 (by omega) (by omega) (by omega) hK
          rw [cnt_s, ecn, if_neg (by decide)] at q1
          refine ⟨M2, ?_, q2⟩
          rw [pf, ev_ci, if_neg (by decide)]
          unfold fX11_cannot_99
          rw [show nI j + 1 = nI (j + 1) from nI_add j 1]
          exact q1
        | some i =>
          have ecn := ecS i hfr
          rw [hfr] at pf
          have pf : fX11_frontOf (nI j) M1 = some (nI (4 + 7 * i + 3), M1) := pf
          obtain ⟨hi, hg⟩ := fro_in hfr
          obtain ⟨M4, e4, s4, k4⟩ := py_throw hC1 hj48 hi he hs hbd
          obtain ⟨m, a', b', c', hs4⟩ := hst j i
          have ecn : cnb n v th o w q l t r e s bd mu j = decide (mu < m) := by rw [ecn]; unfold stv; rw [hs4]; rfl
          have hok4 : sok (some (m, a', b', c')) := by
            rw [← hs4]
            have hv := ho.2.2.2.2.2.2.2.2.2.1
            have v0 := hv 0 (by decide)
            have v1 := hv 1 (by decide)
            have v2 := hv 2 (by decide)
            refine fda_ok ⟨fun k c hk hc => ho.2.2.2.2.2.2.2.2.2.2.2.2.2.2 _ (by omega), fun c hc => (hC.2.1.1.2.2.2.2.1 i hi).2.2.2.1 c hc, fun c hc => ?_⟩ (by omega) (by omega) _ (by omega)
            cases hLL : LL n v th o w q l t r s 999 j with
            | nil => show 50 ≤ 99; decide
            | cons e R =>
              have b1 := mn_le (f := fun x => sp_col v o w x 0 c) (fun x => sp_col_le) (e :: R)
              have b2 := mx_le (f := fun x => sp_col v o w x 0 c) (fun x => sp_col_le) (e :: R)
              show (if _ then _ else _) ≤ 99
              by_cases hx : (tlk (fun c x => sp_col v o w x 0 c) (e :: R) bd 0 && (tlk (fun c x => sp_col v o w x 0 c) (e :: R) bd 1 && tlk (fun c x => sp_col v o w x 0 c) (e :: R) bd 2)) = true
              · rw [if_pos hx]; show (mn (fun x => sp_col v o w x 0 c) (e :: R) + mx (fun x => sp_col v o w x 0 c) (e :: R)) / 2 ≤ 99; omega
              · rw [if_neg hx]; omega
          have hm5 : m ≤ 5346 := hok4.1
          have s3 : M4.1 100 46 = nI m := (s4 _ hs4.symm).1
          obtain ⟨M2, q1, q2⟩ := ih k (j + 1) M4 (by omega) (by omega) (by omega) (hK.trans k4)
          rw [cnt_s, ecn] at q1
          refine ⟨M2, ?_, q2⟩
          rw [pf, ev_ci, if_pos (nI_pos' (by omega)), e4, ev_cv, s3]
          by_cases hmm : mu < m
          · rw [decide_eq_true hmm, if_pos rfl] at q1
            simp (disch := omega) only [ev_ck, ev_ci, ev_cv, ev_lt_, ↓reduceIte, ev_lens, ev_ix, ev_nz, ev_cl, ev_cll, ev_add, ev_addl, ev_ladd, ev_mul, ev_mull, ev_lmul, ev_sub, ev_subl, ev_lsub, ev_lt, ev_ltl, ev_llt, ev_le, ev_lel, ev_lle, ev_eq, ev_eql, ev_leq, ev_nm1, ev_nm5, ev_m1n, ev_neg1, ev_ltT, ev_ltF, ev_leT, ev_leF, ev_eqT, ev_eqF, ev_one0, ev_zero1, Nat.reduceAdd, Nat.reduceMul, Nat.reduceSub, ea_pI_eq, ev_pIn, ev_pIe, ea_pI_r, eq_self, fX11_cannot_96, fX11_cannot_99]
            exact q1
          · rw [decide_eq_false hmm, if_neg (by decide)] at q1
            simp (disch := omega) only [ev_ck, ev_ci, ev_cv, ev_lt_, ↓reduceIte, ev_lens, ev_ix, ev_nz, ev_cl, ev_cll, ev_add, ev_addl, ev_ladd, ev_mul, ev_mull, ev_lmul, ev_sub, ev_subl, ev_lsub, ev_lt, ev_ltl, ev_llt, ev_le, ev_lel, ev_lle, ev_eq, ev_eql, ev_leq, ev_nm1, ev_nm5, ev_m1n, ev_neg1, ev_ltT, ev_ltF, ev_leT, ev_leF, ev_eqT, ev_eqF, ev_one0, ev_zero1, Nat.reduceAdd, Nat.reduceMul, Nat.reduceSub, ea_pI_eq, ev_pIn, ev_pIe, ea_pI_r, eq_self, fX11_cannot_96, fX11_cannot_99]
            exact q1
    obtain ⟨M2, e2, k2⟩ := lp N ea_N 0 M3 (by omega) (by omega) (by unfold ea_N; omega) (Kp.rf M3)
    refine ⟨M2, ?_, k2⟩
    rw [hy M3 h3, gy5, b5, ev_ci, if_neg (by decide)]
    exact e2
