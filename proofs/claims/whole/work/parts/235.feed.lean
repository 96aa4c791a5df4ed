def byt (x s : Int32) : Int32 := vp_nar .byte ((x >>> (s &&& 31)).toInt8.toInt32)
theorem byt_e (x s : Int32) : byt x s = (x >>> (s &&& 31)).toInt8.toInt32 := by
  unfold byt vp_nar
  rw [pk_nb]
theorem byt_b (x s : Int32) : (byt x s).toInt8.toInt32 = byt x s := by
  rw [byt_e]
  simp
def add4 (b c : Nat) (M : eM) (L : Nat) (x : Int32) : eM := ea_pI (ea_pI (ea_pI (ea_pI (ea_pI (ea_pI (ea_pI (ea_pI M b L (byt x 24)) c 1 (nI (L + 1))) b (L + 1) (byt x 16)) c 1 (nI (L + 1 + 1))) b (L + 1 + 1) (byt x 8)) c 1 (nI (L + 1 + 1 + 1))) b (L + 1 + 1 + 1) (byt x 0)) c 1 (nI (L + 4))
def bt4 (x : Int32) (i : Nat) : Int32 := if i = 0 then byt x 24 else if i = 1 then byt x 16 else if i = 2 then byt x 8 else byt x 0
theorem bt4_b (x : Int32) (i : Nat) : (bt4 x i).toInt8.toInt32 = bt4 x i := by
  unfold bt4
  repeat' split
  all_goals exact byt_b _ _
theorem add4_b {b c : Nat} (h : b ≠ c) (M : eM) (L : Nat) (x : Int32) (k : Nat) : (add4 b c M L x).1 b k = if L ≤ k ∧ k < L + 4 then bt4 x (k - L) else M.1 b k := by
  by_cases hk : L ≤ k ∧ k < L + 4
  · rw [if_pos hk]
    rcases (show k = L ∨ k = L + 1 ∨ k = L + 2 ∨ k = L + 3 by omega) with rfl | rfl | rfl | rfl
    · simp (disch := omega) only [ev_ck, ev_ci, ev_cv, ev_lt_, ↓reduceIte, ev_lens, ev_ix, ev_nz, ev_cl, ev_cll, ev_add, ev_addl, ev_ladd, ev_mul, ev_mull, ev_lmul, ev_sub, ev_subl, ev_lsub, ev_lt, ev_ltl, ev_llt, ev_le, ev_lel, ev_lle, ev_eq, ev_eql, ev_leq, ev_nm1, ev_nm5, ev_m1n, ev_neg1, ev_ltT, ev_ltF, ev_leT, ev_leF, ev_eqT, ev_eqF, ev_one0, ev_zero1, Nat.reduceAdd, Nat.reduceMul, Nat.reduceSub, ea_pI_eq, ev_pIn, ev_pIe, ea_pI_r, eq_self, add4, bt4]
    · simp (disch := omega) only [ev_ck, ev_ci, ev_cv, ev_lt_, ↓reduceIte, ev_lens, ev_ix, ev_nz, ev_cl, ev_cll, ev_add, ev_addl, ev_ladd, ev_mul, ev_mull, ev_lmul, ev_sub, ev_subl, ev_lsub, ev_lt, ev_ltl, ev_llt, ev_le, ev_lel, ev_lle, ev_eq, ev_eql, ev_leq, ev_nm1, ev_nm5, ev_m1n, ev_neg1, ev_ltT, ev_ltF, ev_leT, ev_leF, ev_eqT, ev_eqF, ev_one0, ev_zero1, Nat.reduceAdd, Nat.reduceMul, Nat.reduceSub, ea_pI_eq, ev_pIn, ev_pIe, ea_pI_r, eq_self, add4, bt4]
    · simp (disch := omega) only [ev_ck, ev_ci, ev_cv, ev_lt_, ↓reduceIte, ev_lens, ev_ix, ev_nz, ev_cl, ev_cll, ev_add, ev_addl, ev_ladd, ev_mul, ev_mull, ev_lmul, ev_sub, ev_subl, ev_lsub, ev_lt, ev_ltl, ev_llt, ev_le, ev_lel, ev_lle, ev_eq, ev_eql, ev_leq, ev_nm1, ev_nm5, ev_m1n, ev_neg1, ev_ltT, ev_ltF, ev_leT, ev_leF, ev_eqT, ev_eqF, ev_one0, ev_zero1, Nat.reduceAdd, Nat.reduceMul, Nat.reduceSub, ea_pI_eq, ev_pIn, ev_pIe, ea_pI_r, eq_self, add4, bt4]
    · simp (disch := omega) only [ev_ck, ev_ci, ev_cv, ev_lt_, ↓reduceIte, ev_lens, ev_ix, ev_nz, ev_cl, ev_cll, ev_add, ev_addl, ev_ladd, ev_mul, ev_mull, ev_lmul, ev_sub, ev_subl, ev_lsub, ev_lt, ev_ltl, ev_llt, ev_le, ev_lel, ev_lle, ev_eq, ev_eql, ev_leq, ev_nm1, ev_nm5, ev_m1n, ev_neg1, ev_ltT, ev_ltF, ev_leT, ev_leF, ev_eqT, ev_eqF, ev_one0, ev_zero1, Nat.reduceAdd, Nat.reduceMul, Nat.reduceSub, ea_pI_eq, ev_pIn, ev_pIe, ea_pI_r, eq_self, add4, bt4]
  · rw [if_neg hk]
    simp (disch := omega) only [ev_ck, ev_ci, ev_cv, ev_lt_, ↓reduceIte, ev_lens, ev_ix, ev_nz, ev_cl, ev_cll, ev_add, ev_addl, ev_ladd, ev_mul, ev_mull, ev_lmul, ev_sub, ev_subl, ev_lsub, ev_lt, ev_ltl, ev_llt, ev_le, ev_lel, ev_lle, ev_eq, ev_eql, ev_leq, ev_nm1, ev_nm5, ev_m1n, ev_neg1, ev_ltT, ev_ltF, ev_leT, ev_leF, ev_eqT, ev_eqF, ev_one0, ev_zero1, Nat.reduceAdd, Nat.reduceMul, Nat.reduceSub, ea_pI_eq, ev_pIn, ev_pIe, ea_pI_r, eq_self, add4]
theorem add4_c (b c : Nat) (M : eM) (L : Nat) (x : Int32) : (add4 b c M L x).1 c 1 = nI (L + 4) := ea_pI_eq
theorem add4_o {b c : Nat} (M : eM) (L : Nat) (x : Int32) {a k : Nat} (h : a ≠ b ∧ (a ≠ c ∨ k ≠ 1)) : (add4 b c M L x).1 a k = M.1 a k := by simp (disch := omega) only [ev_ck, ev_ci, ev_cv, ev_lt_, ↓reduceIte, ev_lens, ev_ix, ev_nz, ev_cl, ev_cll, ev_add, ev_addl, ev_ladd, ev_mul, ev_mull, ev_lmul, ev_sub, ev_subl, ev_lsub, ev_lt, ev_ltl, ev_llt, ev_le, ev_lel, ev_lle, ev_eq, ev_eql, ev_leq, ev_nm1, ev_nm5, ev_m1n, ev_neg1, ev_ltT, ev_ltF, ev_leT, ev_leF, ev_eqT, ev_eqF, ev_one0, ev_zero1, Nat.reduceAdd, Nat.reduceMul, Nat.reduceSub, ea_pI_eq, ev_pIn, ev_pIe, ea_pI_r, eq_self, add4]
theorem add4_r (b c : Nat) (M : eM) (L : Nat) (x : Int32) : (add4 b c M L x).2.2 = M.2.2 := rfl
theorem fd_a : (24 : Int32) + (-8) = 16 ∧ (16 : Int32) + (-8) = 8 ∧ (8 : Int32) + (-8) = 0 ∧ (0 : Int32) + (-8) = -8 ∧ ((24 : Int32) < 0) = False ∧ ((16 : Int32) < 0) = False ∧ ((8 : Int32) < 0) = False ∧ ((0 : Int32) < 0) = False ∧ ((-8 : Int32) < 0) = True := by decide
theorem px_four {M : eM} {L : Nat} (h : M.1 1 1 = nI L) (hL : L ≤ 896) (x : Int32) : fX7_addFour x M = some (add4 2 1 M L x) := by
  show fX7_addFour_3 (99995 + 1 + 1 + 1 + 1 + 1) x 24 M = _
  unfold add4 byt
  simp (disch := omega) only [ev_ck, ev_ci, ev_cv, ev_lt_, ↓reduceIte, ev_lens, ev_ix, ev_nz, ev_cl, ev_cll, ev_add, ev_addl, ev_ladd, ev_mul, ev_mull, ev_lmul, ev_sub, ev_subl, ev_lsub, ev_lt, ev_ltl, ev_llt, ev_le, ev_lel, ev_lle, ev_eq, ev_eql, ev_leq, ev_nm1, ev_nm5, ev_m1n, ev_neg1, ev_ltT, ev_ltF, ev_leT, ev_leF, ev_eqT, ev_eqF, ev_one0, ev_zero1, Nat.reduceMul, Nat.reduceSub, ea_pI_eq, ev_pIn, ev_pIe, ea_pI_r, eq_self, fX7_addFour_3, fd_a, h]
theorem py_four {M : eM} {L : Nat} (h : M.1 100 1 = nI L) (hL : L ≤ 896) (x x1 x2 x3 x4 x5 x6 : Int32) (k109 : Int32 → Int32 → Int32 → Int32 → Int32 → Int32 → eM → Option (Int32 × eM)) : fX11_feed_73 k109 ea_N x1 x2 x3 x4 x5 x6 x 24 M = k109 x1 x2 x3 x4 x5 x6 (add4 101 100 M L x) := by
  show fX11_feed_73 k109 (99995 + 1 + 1 + 1 + 1 + 1) x1 x2 x3 x4 x5 x6 x 24 M = _
  unfold add4 byt
  simp (disch := omega) only [ev_ck, ev_ci, ev_cv, ev_lt_, ↓reduceIte, ev_lens, ev_ix, ev_nz, ev_cl, ev_cll, ev_add, ev_addl, ev_ladd, ev_mul, ev_mull, ev_lmul, ev_sub, ev_subl, ev_lsub, ev_lt, ev_ltl, ev_llt, ev_le, ev_lel, ev_lle, ev_eq, ev_eql, ev_leq, ev_nm1, ev_nm5, ev_m1n, ev_neg1, ev_ltT, ev_ltF, ev_leT, ev_leF, ev_eqT, ev_eqF, ev_one0, ev_zero1, Nat.reduceMul, Nat.reduceSub, ea_pI_eq, ev_pIn, ev_pIe, ea_pI_r, eq_self, fX11_feed_73, fd_a, h]
theorem fd_i : (0 : Int32) + 1 = 1 ∧ (1 : Int32) + 1 = 2 ∧ (2 : Int32) + 1 = 3 ∧ (3 : Int32) + 1 = 4 ∧ (4 : Int32) + 1 = 5 ∧ ((5 : Int32) ≤ 0) = False ∧ ((5 : Int32) ≤ 1) = False ∧ ((5 : Int32) ≤ 2) = False ∧ ((5 : Int32) ≤ 3) = False ∧ ((5 : Int32) ≤ 4) = False ∧ ((5 : Int32) ≤ 5) = True ∧ ((2 : Int32) = 0) = False ∧ ((2 : Int32) = 1) = False ∧ ((3 : Int32) = 0) = False ∧ ((3 : Int32) = 1) = False ∧ ((3 : Int32) = 2) = False ∧ ((4 : Int32) = 0) = False ∧ ((4 : Int32) = 1) = False ∧ ((4 : Int32) = 2) = False ∧ ((4 : Int32) = 3) = False := by decide
theorem st_feed (a b d e f : Int32) : ea_st Inv (fX10_feed a b d e f) (fX11_feed a b d e f) := by
  intro M hM
  obtain ⟨c, n, v, th, o, w, len, q, l, t, r, h1, h2, h3, h4⟩ := id hM
  obtain ⟨p1, p2, p3, p4, p5, p6⟩ := id h2
  rcases Nat.lt_or_ge 900 (len + 20) with hl | hl
  · refine ⟨-3, M, M, ?_, ?_, hM⟩
    · simp (disch := omega) only [ev_ck, ev_ci, ev_cv, ev_lt_, ↓reduceIte, ev_lens, ev_ix, ev_nz, ev_cl, ev_cll, ev_add, ev_addl, ev_ladd, ev_mul, ev_mull, ev_lmul, ev_sub, ev_subl, ev_lsub, ev_lt, ev_ltl, ev_llt, ev_le, ev_lel, ev_lle, ev_eq, ev_eql, ev_leq, ev_nm1, ev_nm5, ev_m1n, ev_neg1, ev_ltT, ev_ltF, ev_leT, ev_leF, ev_eqT, ev_eqF, ev_one0, ev_zero1, Nat.reduceAdd, Nat.reduceMul, Nat.reduceSub, ea_pI_eq, ev_pIn, ev_pIe, ea_pI_r, eq_self, fX10_feed, fX10_feed_0, p2]
    · simp (disch := omega) only [ev_ck, ev_ci, ev_cv, ev_lt_, ↓reduceIte, ev_lens, ev_ix, ev_nz, ev_cl, ev_cll, ev_add, ev_addl, ev_ladd, ev_mul, ev_mull, ev_lmul, ev_sub, ev_subl, ev_lsub, ev_lt, ev_ltl, ev_llt, ev_le, ev_lel, ev_lle, ev_eq, ev_eql, ev_leq, ev_nm1, ev_nm5, ev_m1n, ev_neg1, ev_ltT, ev_ltF, ev_leT, ev_leF, ev_eqT, ev_eqF, ev_one0, ev_zero1, Nat.reduceAdd, Nat.reduceMul, Nat.reduceSub, ea_pI_eq, ev_pIn, ev_pIe, ea_pI_r, eq_self, fX11_feed, fX11_feed_0, p3]
  have X : fX10_feed a b d e f M = some (nI (len + 20), add4 2 1 (add4 2 1 (add4 2 1 (add4 2 1 (add4 2 1 M len a) (len + 4) b) (len + 8) d) (len + 12) e) (len + 16) f) := by
    unfold fX10_feed fX10_feed_0
    simp (disch := omega) only [ev_ck, ev_ci, ev_cv, ev_lt_, ↓reduceIte, ev_lens, ev_ix, ev_nz, ev_cl, ev_cll, ev_add, ev_addl, ev_ladd, ev_mul, ev_mull, ev_lmul, ev_sub, ev_subl, ev_lsub, ev_lt, ev_ltl, ev_llt, ev_le, ev_lel, ev_lle, ev_eq, ev_eql, ev_leq, ev_nm1, ev_nm5, ev_m1n, ev_neg1, ev_ltT, ev_ltF, ev_leT, ev_leF, ev_eqT, ev_eqF, ev_one0, ev_zero1, Nat.reduceAdd, Nat.reduceMul, Nat.reduceSub, ea_pI_eq, ev_pIn, ev_pIe, ea_pI_r, eq_self, p2]
    rw [px_four p2 (by omega), ev_cv, px_four (add4_c ..) (by omega), ev_cv, px_four (add4_c ..) (by omega), ev_cv, px_four (add4_c ..) (by omega), ev_cv, px_four (add4_c ..) (by omega), ev_cv, add4_c]
  generalize hM1 : add4 2 1 (add4 2 1 (add4 2 1 (add4 2 1 (add4 2 1 M len a) (len + 4) b) (len + 8) d) (len + 12) e) (len + 16) f = M1 at X
  have q3 : M1.1 100 1 = nI len := by rw [← hM1, add4_o _ _ _ (by decide), add4_o _ _ _ (by decide), add4_o _ _ _ (by decide), add4_o _ _ _ (by decide), add4_o _ _ _ (by decide)]; exact p3
  have Y : fX11_feed a b d e f M1 = some (nI (len + 20), add4 101 100 (add4 101 100 (add4 101 100 (add4 101 100 (add4 101 100 M1 len a) (len + 4) b) (len + 8) d) (len + 12) e) (len + 16) f) := by
    unfold fX11_feed fX11_feed_0
    simp (disch := omega) only [ev_ck, ev_ci, ev_cv, ev_lt_, ↓reduceIte, ev_lens, ev_ix, ev_nz, ev_cl, ev_cll, ev_add, ev_addl, ev_ladd, ev_mul, ev_mull, ev_lmul, ev_sub, ev_subl, ev_lsub, ev_lt, ev_ltl, ev_llt, ev_le, ev_lel, ev_lle, ev_eq, ev_eql, ev_leq, ev_nm1, ev_nm5, ev_m1n, ev_neg1, ev_ltT, ev_ltF, ev_leT, ev_leF, ev_eqT, ev_eqF, ev_one0, ev_zero1, Nat.reduceAdd, Nat.reduceMul, Nat.reduceSub, ea_pI_eq, ev_pIn, ev_pIe, ea_pI_r, eq_self, q3]
    show fX11_feed_19 fX11_feed_115 (99994 + 1 + 1 + 1 + 1 + 1 + 1) a b d e f 0 M1 = _
    rw [fX11_feed_19]
    simp (disch := omega) only [ev_ck, ev_ci, ev_cv, ev_lt_, ↓reduceIte, ev_lens, ev_ix, ev_nz, ev_cl, ev_cll, ev_add, ev_addl, ev_ladd, ev_mul, ev_mull, ev_lmul, ev_sub, ev_subl, ev_lsub, ev_lt, ev_ltl, ev_llt, ev_le, ev_lel, ev_lle, ev_eq, ev_eql, ev_leq, ev_nm1, ev_nm5, ev_m1n, ev_neg1, ev_ltT, ev_ltF, ev_leT, ev_leF, ev_eqT, ev_eqF, ev_one0, ev_zero1, Nat.reduceAdd, Nat.reduceMul, Nat.reduceSub, ea_pI_eq, ev_pIn, ev_pIe, ea_pI_r, eq_self, fX11_feed_67, fd_i]
    rw [py_four q3 (by omega), fX11_feed_109, fX11_feed_19]
    simp (disch := omega) only [ev_ck, ev_ci, ev_cv, ev_lt_, ↓reduceIte, ev_lens, ev_ix, ev_nz, ev_cl, ev_cll, ev_add, ev_addl, ev_ladd, ev_mul, ev_mull, ev_lmul, ev_sub, ev_subl, ev_lsub, ev_lt, ev_ltl, ev_llt, ev_le, ev_lel, ev_lle, ev_eq, ev_eql, ev_leq, ev_nm1, ev_nm5, ev_m1n, ev_neg1, ev_ltT, ev_ltF, ev_leT, ev_leF, ev_eqT, ev_eqF, ev_one0, ev_zero1, Nat.reduceAdd, Nat.reduceMul, Nat.reduceSub, ea_pI_eq, ev_pIn, ev_pIe, ea_pI_r, eq_self, fX11_feed_67, fd_i]
    rw [py_four (add4_c ..) (by omega), fX11_feed_109, fX11_feed_19]
    simp (disch := omega) only [ev_ck, ev_ci, ev_cv, ev_lt_, ↓reduceIte, ev_lens, ev_ix, ev_nz, ev_cl, ev_cll, ev_add, ev_addl, ev_ladd, ev_mul, ev_mull, ev_lmul, ev_sub, ev_subl, ev_lsub, ev_lt, ev_ltl, ev_llt, ev_le, ev_lel, ev_lle, ev_eq, ev_eql, ev_leq, ev_nm1, ev_nm5, ev_m1n, ev_neg1, ev_ltT, ev_ltF, ev_leT, ev_leF, ev_eqT, ev_eqF, ev_one0, ev_zero1, Nat.reduceAdd, Nat.reduceMul, Nat.reduceSub, ea_pI_eq, ev_pIn, ev_pIe, ea_pI_r, eq_self, fX11_feed_67, fd_i]
    rw [py_four (add4_c ..) (by omega), fX11_feed_109, fX11_feed_19]
    simp (disch := omega) only [ev_ck, ev_ci, ev_cv, ev_lt_, ↓reduceIte, ev_lens, ev_ix, ev_nz, ev_cl, ev_cll, ev_add, ev_addl, ev_ladd, ev_mul, ev_mull, ev_lmul, ev_sub, ev_subl, ev_lsub, ev_lt, ev_ltl, ev_llt, ev_le, ev_lel, ev_lle, ev_eq, ev_eql, ev_leq, ev_nm1, ev_nm5, ev_m1n, ev_neg1, ev_ltT, ev_ltF, ev_leT, ev_leF, ev_eqT, ev_eqF, ev_one0, ev_zero1, Nat.reduceAdd, Nat.reduceMul, Nat.reduceSub, ea_pI_eq, ev_pIn, ev_pIe, ea_pI_r, eq_self, fX11_feed_67, fd_i]
    rw [py_four (add4_c ..) (by omega), fX11_feed_109, fX11_feed_19]
    simp (disch := omega) only [ev_ck, ev_ci, ev_cv, ev_lt_, ↓reduceIte, ev_lens, ev_ix, ev_nz, ev_cl, ev_cll, ev_add, ev_addl, ev_ladd, ev_mul, ev_mull, ev_lmul, ev_sub, ev_subl, ev_lsub, ev_lt, ev_ltl, ev_llt, ev_le, ev_lel, ev_lle, ev_eq, ev_eql, ev_leq, ev_nm1, ev_nm5, ev_m1n, ev_neg1, ev_ltT, ev_ltF, ev_leT, ev_leF, ev_eqT, ev_eqF, ev_one0, ev_zero1, Nat.reduceAdd, Nat.reduceMul, Nat.reduceSub, ea_pI_eq, ev_pIn, ev_pIe, ea_pI_r, eq_self, fX11_feed_67, fd_i]
    rw [py_four (add4_c ..) (by omega), fX11_feed_109, fX11_feed_19]
    simp (disch := omega) only [ev_ck, ev_ci, ev_cv, ev_lt_, ↓reduceIte, ev_lens, ev_ix, ev_nz, ev_cl, ev_cll, ev_add, ev_addl, ev_ladd, ev_mul, ev_mull, ev_lmul, ev_sub, ev_subl, ev_lsub, ev_lt, ev_ltl, ev_llt, ev_le, ev_lel, ev_lle, ev_eq, ev_eql, ev_leq, ev_nm1, ev_nm5, ev_m1n, ev_neg1, ev_ltT, ev_ltF, ev_leT, ev_leF, ev_eqT, ev_eqF, ev_one0, ev_zero1, Nat.reduceAdd, Nat.reduceMul, Nat.reduceSub, ea_pI_eq, ev_pIn, ev_pIe, ea_pI_r, eq_self, fd_i, fX11_feed_115, add4_c]
  generalize hM2 : add4 101 100 (add4 101 100 (add4 101 100 (add4 101 100 (add4 101 100 M1 len a) (len + 4) b) (len + 8) d) (len + 12) e) (len + 16) f = M2 at Y
  have o1 : ∀ c k, c ≠ 2 ∧ (c ≠ 1 ∨ k ≠ 1) → M1.1 c k = M.1 c k := fun c k h => by rw [← hM1, add4_o _ _ _ h, add4_o _ _ _ h, add4_o _ _ _ h, add4_o _ _ _ h, add4_o _ _ _ h]
  have o2 : ∀ c k, c ≠ 101 ∧ (c ≠ 100 ∨ k ≠ 1) → M2.1 c k = M1.1 c k := fun c k h => by rw [← hM2, add4_o _ _ _ h, add4_o _ _ _ h, add4_o _ _ _ h, add4_o _ _ _ h, add4_o _ _ _ h]
  have oo : ∀ c k, c ≠ 2 → c ≠ 101 → (c ≠ 1 ∨ k ≠ 1) → (c ≠ 100 ∨ k ≠ 1) → M2.1 c k = M.1 c k := fun c k h1 h2 h3 h4 => by rw [o2 c k ⟨h2, h4⟩, o1 c k ⟨h1, h3⟩]
  have hr : M2.2.2 = M.2.2 := by rw [← hM2, add4_r, add4_r, add4_r, add4_r, add4_r, ← hM1, add4_r, add4_r, add4_r, add4_r, add4_r]
  have fc : FrC M M2 := by
    refine ⟨fun c k hk => ?_, hr⟩
    have key : ∀ c, c < 130 → isKCc c = true → c ≠ 1 ∧ c ≠ 2 ∧ c ≠ 100 ∧ c ≠ 101 := by decide +kernel
    have hc : c ≠ 2 ∧ c ≠ 101 ∧ (c ≠ 1 ∨ k ≠ 1) ∧ (c ≠ 100 ∨ k ≠ 1) := by
      unfold isKC at hk
      rcases Nat.lt_or_ge c 130 with q | q
      · by_cases hc : isKCc c = true
        · have := key c q hc; omega
        · simp only [hc, Bool.false_or, Bool.or_eq_true, Bool.and_eq_true, beq_iff_eq] at hk
          omega
      · omega
    exact oo c k hc.1 hc.2.1 hc.2.2.1 hc.2.2.2
  refine ⟨nI (len + 20), M1, M2, X, Y, c, n, v, th, o, w, len + 20, q, l, t, r, h1.fr fc, ⟨by omega, ?_, ?_, ?_, ?_, ?_⟩, ?_, fun j hj => (h4 j hj).fr ?_ ?_ ?_⟩
  · rw [o2 _ _ (by decide), ← hM1]; exact add4_c ..
  · rw [← hM2]; exact add4_c ..
  · intro k hk
    have b1 : M2.1 101 k = if len + 16 ≤ k ∧ k < len + 16 + 4 then bt4 f (k - (len + 16)) else if len + 12 ≤ k ∧ k < len + 12 + 4 then bt4 e (k - (len + 12)) else if len + 8 ≤ k ∧ k < len + 8 + 4 then bt4 d (k - (len + 8)) else if len + 4 ≤ k ∧ k < len + 4 + 4 then bt4 b (k - (len + 4)) else if len ≤ k ∧ k < len + 4 then bt4 a (k - len) else M.1 101 k := by
      rw [← hM2, add4_b (by decide), add4_b (by decide), add4_b (by decide), add4_b (by decide), add4_b (by decide), o1 _ _ (by omega)]
    have b2 : M2.1 2 k = if len + 16 ≤ k ∧ k < len + 16 + 4 then bt4 f (k - (len + 16)) else if len + 12 ≤ k ∧ k < len + 12 + 4 then bt4 e (k - (len + 12)) else if len + 8 ≤ k ∧ k < len + 8 + 4 then bt4 d (k - (len + 8)) else if len + 4 ≤ k ∧ k < len + 4 + 4 then bt4 b (k - (len + 4)) else if len ≤ k ∧ k < len + 4 then bt4 a (k - len) else M.1 2 k := by
      rw [o2 _ _ (by omega), ← hM1, add4_b (by decide), add4_b (by decide), add4_b (by decide), add4_b (by decide), add4_b (by decide)]
    rw [b1, b2]
    by_cases k1 : len + 16 ≤ k ∧ k < len + 16 + 4
    · rw [if_pos k1, if_pos k1]; exact ⟨rfl, bt4_b _ _⟩
    rw [if_neg k1, if_neg k1]
    by_cases k2 : len + 12 ≤ k ∧ k < len + 12 + 4
    · rw [if_pos k2, if_pos k2]; exact ⟨rfl, bt4_b _ _⟩
    rw [if_neg k2, if_neg k2]
    by_cases k3 : len + 8 ≤ k ∧ k < len + 8 + 4
    · rw [if_pos k3, if_pos k3]; exact ⟨rfl, bt4_b _ _⟩
    rw [if_neg k3, if_neg k3]
    by_cases k4 : len + 4 ≤ k ∧ k < len + 4 + 4
    · rw [if_pos k4, if_pos k4]; exact ⟨rfl, bt4_b _ _⟩
    rw [if_neg k4, if_neg k4]
    by_cases k5 : len ≤ k ∧ k < len + 4
    · rw [if_pos k5, if_pos k5]; exact ⟨rfl, bt4_b _ _⟩
    rw [if_neg k5, if_neg k5]
    exact p4 k (by omega)
  · rw [oo 3 0 (by decide) (by decide) (by decide) (by decide), oo 100 8 (by decide) (by decide) (by decide) (by decide)]; exact p5
  · rw [oo 3 1 (by decide) (by decide) (by decide) (by decide), oo 100 9 (by decide) (by decide) (by decide) (by decide)]; exact p6
  · exact ⟨h3.1, h3.2.1.fr (fun d k hd => oo _ _ (by omega) (by omega) (by omega) (by omega)), h3.2.2.1.fr h3.1 (fun k _ _ => oo _ _ (by decide) (by decide) (by omega) (by omega)), h3.2.2.2⟩
  · exact fun d k hd => oo _ _ (by omega) (by omega) (by omega) (by omega)
  · exact oo _ _ (by decide) (by decide) (by omega) (by omega)
  · exact fun k _ _ => oo _ _ (by decide) (by decide) (by omega) (by omega)
