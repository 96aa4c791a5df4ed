theorem py_years {M : eM} {n : Nat → Nat} {v : Nat → Nat → Nat} (hY : pn_Y M n v) (ho : pn_ok n v) {s : Nat} (hs : s < n 5) {x : Int32} (hx : x - 40 = nI s) : fX11_told_211 ea_N x 0 0 M = some (nI (sumN (fun i => v 4 (4 * (6 * s + i))) (v 3 s)), M) := by
  have b5 := ho.2.2.2.2.2.1
  obtain ⟨hh, hp⟩ := ho.2.2.2.2.2.2.2.2.2.2.2.2.2.1 s hs
  have e6 : M.1 107 s = nI (v 3 s) := hY.2.2.2.2.1 s hs
  have lp : ∀ (d k i : Nat), v 3 s - i = d → i ≤ v 3 s → d < k → fX11_told_211 k x (nI (sumN (fun i => v 4 (4 * (6 * s + i))) i)) (nI i) M = some (nI (sumN (fun i => v 4 (4 * (6 * s + i))) (v 3 s)), M) := by
    intro d
    induction d with
    | zero =>
      intro k i hd hi hk
      obtain ⟨k, rfl⟩ : ∃ k', k = k' + 1 := ⟨k - 1, by omega⟩
      obtain rfl : i = v 3 s := by omega
      simp (disch := omega) only [ev_ck, ev_ci, ev_cv, ev_lt_, ↓reduceIte, ev_lens, ev_ix, ev_nz, ev_cl, ev_cll, ev_add, ev_addl, ev_ladd, ev_mul, ev_mull, ev_lmul, ev_sub, ev_subl, ev_lsub, ev_lt, ev_ltl, ev_llt, ev_le, ev_lel, ev_lle, ev_eq, ev_eql, ev_leq, ev_nm1, ev_nm5, ev_m1n, ev_neg1, ev_ltT, ev_ltF, ev_leT, ev_leF, ev_eqT, ev_eqF, ev_one0, ev_zero1, Nat.reduceAdd, Nat.reduceMul, Nat.reduceSub, ea_pI_eq, ev_pIn, ev_pIe, ea_pI_r, eq_self, fX11_told_211, hx, e6]
    | succ d ih =>
      intro k i hd hi hk
      obtain ⟨k, rfl⟩ : ∃ k', k = k' + 1 := ⟨k - 1, by omega⟩
      have g : M.1 108 (4 * (6 * s + i)) = nI (v 4 (4 * (6 * s + i))) := hY.2.2.2.2.2.1 s i 0 hs (by omega) (by decide)
      have nx := ih k (i + 1) (by omega) (by omega) (by omega)
      rw [sumN_s] at nx
      simp (disch := omega) only [ev_ck, ev_ci, ev_cv, ev_lt_, ↓reduceIte, ev_lens, ev_ix, ev_nz, ev_cl, ev_cll, ev_add, ev_addl, ev_ladd, ev_mul, ev_mull, ev_lmul, ev_sub, ev_subl, ev_lsub, ev_lt, ev_ltl, ev_llt, ev_le, ev_lel, ev_lle, ev_eq, ev_eql, ev_leq, ev_nm1, ev_nm5, ev_m1n, ev_neg1, ev_ltT, ev_ltF, ev_leT, ev_leF, ev_eqT, ev_eqF, ev_one0, ev_zero1, Nat.reduceAdd, Nat.reduceMul, Nat.reduceSub, ea_pI_eq, ev_pIn, ev_pIe, ea_pI_r, eq_self, fX11_told_211, hx, e6, g]
      exact nx
  exact lp (v 3 s) ea_N 0 (by omega) (by omega) (by unfold ea_N; omega)
theorem pb_off (x : Int32) {a k : Nat} (ha : a < 2 ^ 20) (hk : k < 2 ^ 20) (h : pb (x - nI a) 0 (nI k - 1) = 1) : ∃ f, f < k ∧ x = nI (a + f) := by
  obtain ⟨f, hf, e⟩ := pb_nat0 (by omega) h
  refine ⟨f, hf, ?_⟩
  rw [← nI_add, ← e, Int32.add_comm, Int32.sub_add_cancel]
theorem pb_zero {x : Int32} {a k : Nat} (ha : a < 2 ^ 30) (hk : k < 2 ^ 30) : pb x (nI a) (nI k - 1) = 0 ↔ ∀ f, a ≤ f → f < k → x ≠ nI f := by
  constructor
  · intro h f h1 h2 e
    rw [e] at h
    have : pb (nI f) (nI a) (nI k - 1) = 1 := by
      unfold pb
      rw [if_neg (nI_nlt h1 (by omega)), show nI k - 1 = nI (k - 1) from pk_sub (b := 1) (by omega), if_neg (nI_nlt (by omega) (by omega))]
    rw [this] at h
    exact absurd h (by decide)
  · intro h
    rcases pb_01 x (nI a) (nI k - 1) with e | e
    · exact e
    · obtain ⟨f, h1, h2, rfl⟩ := pb_nat ha hk e
      exact absurd rfl (h f h1 h2)
theorem pb_shift {x : Int32} {a k : Nat} (ha : a < 2 ^ 20) (hk : k < 2 ^ 20) : pb (x - nI a) 0 (nI k - 1) = pb x (nI a) (nI (a + k) - 1) := by
  rcases pb_01 (x - nI a) 0 (nI k - 1) with e | e
  · rw [e]
    symm
    rw [pb_zero (by omega) (by omega)]
    intro f h1 h2 h3
    refine (pb_zero (a := 0) (by decide) (by omega)).mp e (f - a) (by omega) (by omega) ?_
    rw [h3, pk_sub h1]
  · obtain ⟨f, hf, rfl⟩ := pb_off x ha hk e
    rw [e]
    rcases pb_01 (nI (a + f)) (nI a) (nI (a + k) - 1) with e2 | e2
    · exact absurd rfl ((pb_zero (by omega) (by omega)).mp e2 (a + f) (by omega) (by omega))
    · exact e2.symm
theorem st_told (x : Int32) : ea_st Inv (fX10_told x) (fX11_told x) := by
  refine ea_same (fun M hM => ?_)
  obtain ⟨c, n, v, th, o, w, len, q, l, t, r, h1, h2, h3, h4⟩ := id hM
  obtain ⟨hc, hr, -, ho, hX, hY, -⟩ := id h1
  have b5 := ho.2.2.2.2.2.1
  have b7 := ho.2.2.2.2.2.2.2.1
  obtain ⟨⟨x0, x1, x2, x3, x4, x5, x6, x7, x8⟩, xb, xy, xs, xh, -⟩ := id hX
  obtain ⟨⟨y0, y1, y2, y3, y4, y5, y6, y7, y8⟩, yb, yy, ys, yh, -⟩ := id hY
  rcases (pb_01 x 0 (nI 8 - 1)).symm with e8 | e8
  · obtain ⟨f, hf, rfl⟩ := pb_nat0 (by decide) e8
    have hY8 : fX11_in (nI f) 0 7 M = some (1, M) := (py_in ..).trans (by rw [show (7 : Int32) = nI 8 - 1 from rfl, e8])
    unfold fX10_told fX10_told_0 fX11_told fX11_told_0 fX1_numberTold fX1_numberTold_0
    rw [hr, ea_ck_t (pn_is hc), ea_ci_t hY8]
    rcases (show f = 0 ∨ f = 1 ∨ f = 2 ∨ f = 3 ∨ f = 4 ∨ f = 5 ∨ f = 6 ∨ f = 7 by omega) with rfl | rfl | rfl | rfl | rfl | rfl | rfl | rfl
    all_goals
      simp (disch := omega) only [ev_ck, ev_ci, ev_cv, ev_lt_, ↓reduceIte, ev_lens, ev_ix, ev_nz, ev_cl, ev_cll, ev_add, ev_addl, ev_ladd, ev_mul, ev_mull, ev_lmul, ev_sub, ev_subl, ev_lsub, ev_lt, ev_ltl, ev_llt, ev_le, ev_lel, ev_lle, ev_eq, ev_eql, ev_leq, ev_nm1, ev_nm5, ev_m1n, ev_neg1, ev_ltT, ev_ltF, ev_leT, ev_leF, ev_eqT, ev_eqF, ev_one0, ev_zero1, Nat.reduceAdd, Nat.reduceMul, Nat.reduceSub, ea_pI_eq, ev_pIn, ev_pIe, ea_pI_r, eq_self, x0, x1, x2, x3, x4, x5, x6, x7, y0, y1, y2, y3, y4, y5, y6, y7]
      exact ⟨_, rfl, rfl⟩
  have X24 : fX10_told x M = if x = 8 ∨ x = 9 then some (-1, M) else fX10_told_24 x c M := by
    unfold fX10_told fX10_told_0
    rw [hr, ea_ck_t (pn_is hc)]
    show (if x < 0 then fX10_told_24 x c M else if (10 : Int32) ≤ x then fX10_told_24 x c M else _) = _
    by_cases hx : x < 0
    · rw [if_pos hx, if_neg (by rintro (rfl | rfl) <;> exact absurd hx (by decide))]
    · rw [if_neg hx]
      obtain ⟨f, hf, rfl⟩ := nI_of hx
      by_cases h10 : (10 : Int32) ≤ nI f
      · rw [if_pos h10, if_neg (by rintro (e | e) <;> (rw [e] at h10; exact absurd h10 (by decide)))]
      · have hf10 : f < 10 := by
          rcases Nat.lt_or_ge f 10 with q | q
          · exact q
          · exact absurd ((nI_leI (a := 10) (by decide) hf).mpr q) h10
        have hf8 : ¬ f < 8 := fun q => (pb_zero (a := 0) (by decide) (by decide)).mp e8 f (by omega) q rfl
        rcases (show f = 8 ∨ f = 9 by omega) with rfl | rfl <;> rfl
  have Y24 : fX11_told x M = ea_ci (fX11_in x 10 12 M) (fun r6 M7 => if r6 = 0 then (ea_ci (fX11_in x (20 : Int32) ((19 : Int32) + (M7.1 102 (7 : Int32).toNatClampNeg)) M7) (fun r10 M11 => if r10 = 0 then (ea_ci (fX11_isStory (x - (30 : Int32)) M11) (fun r14 M15 => if r14 = 0 then (ea_ci (fX11_isStory (x - (40 : Int32)) M15) (fun r18 M19 => if r18 = 0 then (some ((-1 : Int32), M19)) else (fX11_told_211 ea_N x (0 : Int32) (0 : Int32) M19))) else (ea_ck (ea_ix (x - (30 : Int32)) (ea_len 107)) (some (M15.1 107 (x - (30 : Int32)).toNatClampNeg, M15))))) else (ea_ck (ea_ix (((11 : Int32) + x) - (20 : Int32)) (ea_len 102)) (some (M11.1 102 (((11 : Int32) + x) - (20 : Int32)).toNatClampNeg, M11))))) else (ea_ck (ea_ix (((8 : Int32) + x) - (10 : Int32)) (ea_len 102)) (some (M7.1 102 (((8 : Int32) + x) - (10 : Int32)).toNatClampNeg, M7)))) := by
    unfold fX11_told fX11_told_0
    rw [ea_ci_t ((py_in x 0 7 M).trans (by rw [show (7 : Int32) = nI 8 - 1 from rfl, e8])), if_pos rfl]
  have s1 : pb (x - 10) 0 2 = pb x 10 12 := pb_shift (a := 10) (k := 3) (by decide) (by decide)
  have s2 : pb (x - 20) 0 (nI (n 7) - 1) = pb x 20 (19 + nI (n 7)) := by
    rw [show pb (x - 20) 0 (nI (n 7) - 1) = _ from pb_shift (a := 20) (k := n 7) (by decide) (by omega)]
    congr 1
    rw [show nI (20 + n 7) - 1 = nI (20 + n 7 - 1) from pk_sub (b := 1) (by omega), show (19 : Int32) + nI (n 7) = nI (19 + n 7) from nI_add 19 _]
    congr 1
    omega
  have X : ∀ (hne : ¬ (x = 8 ∨ x = 9)), fX10_told x M = if pb x 10 12 = 0 then (if pb x 20 (19 + nI (n 7)) = 0 then (if pb (x - 30) 0 (nI (n 5) - 1) = 0 then (if pb (x - 40) 0 (nI (n 5) - 1) = 0 then some (-1, M) else ea_ci (fX1_yearsOf c (x - 40) M) (fun r18 M19 => some (r18, M19))) else (ea_ck (ea_ix (x - 30) (ea_len (c + 6))) (some (M.1 (c + 6) (x - 30).toNatClampNeg, M)))) else (ea_ck (ea_ix (x - 20) (ea_len (c + 2))) (some (M.1 (c + 2) (x - 20).toNatClampNeg, M)))) else (ea_ck (ea_ix (x - 10) (ea_len (c + 1))) (some (M.1 (c + 1) (x - 10).toNatClampNeg, M))) := by
    intro hne
    rw [X24, if_neg hne]
    unfold fX10_told_24
    rw [ea_ci_t (px_in ..), ea_ci_t (px_in ..), ea_ci_t (px_in ..), ea_ci_t (px_in ..), x5, x7, s1, s2]
  have Y : fX11_told x M = if pb x 10 12 = 0 then (if pb x 20 (19 + nI (n 7)) = 0 then (if pb (x - 30) 0 (nI (n 5) - 1) = 0 then (if pb (x - 40) 0 (nI (n 5) - 1) = 0 then some (-1, M) else (fX11_told_211 ea_N x (0 : Int32) (0 : Int32) M)) else (ea_ck (ea_ix (x - (30 : Int32)) (ea_len 107)) (some (M.1 107 (x - (30 : Int32)).toNatClampNeg, M)))) else (ea_ck (ea_ix (((11 : Int32) + x) - (20 : Int32)) (ea_len 102)) (some (M.1 102 (((11 : Int32) + x) - (20 : Int32)).toNatClampNeg, M)))) else (ea_ck (ea_ix (((8 : Int32) + x) - (10 : Int32)) (ea_len 102)) (some (M.1 102 (((8 : Int32) + x) - (10 : Int32)).toNatClampNeg, M))) := by
    rw [Y24, ea_ci_t (py_in ..), ea_ci_t (py_in ..), ea_ci_t (gy_story h1 _), ea_ci_t (gy_story h1 _), show (7 : Int32).toNatClampNeg = 7 from rfl, y7]
  by_cases hne : x = 8 ∨ x = 9
  · refine ⟨-1, by rw [X24, if_pos hne], ?_⟩
    have z : ∀ (a k : Nat), 10 ≤ a → a < 2 ^ 20 → k < 2 ^ 20 → pb (x - nI a) 0 (nI k - 1) = 0 := by
      intro a k h10 ha hk
      rw [pb_shift ha hk, pb_zero (by omega) (by omega)]
      intro f hf1 hf2 e
      rcases hne with rfl | rfl
      · exact absurd ((nI_eq (a := 8) (by decide) (by omega)).mp e) (by omega)
      · exact absurd ((nI_eq (a := 9) (by decide) (by omega)).mp e) (by omega)
    have z1 : pb x 10 12 = 0 := by rw [← s1]; exact z 10 3 (by decide) (by decide) (by decide)
    have z2 : pb x 20 (19 + nI (n 7)) = 0 := by rw [← s2]; exact z 20 (n 7) (by decide) (by decide) (by omega)
    have z3 : pb (x - 30) 0 (nI (n 5) - 1) = 0 := z 30 (n 5) (by decide) (by decide) (by omega)
    have z4 : pb (x - 40) 0 (nI (n 5) - 1) = 0 := z 40 (n 5) (by decide) (by decide) (by omega)
    rw [Y, if_pos z1, if_pos z2, if_pos z3, if_pos z4]
  rw [X hne, Y]
  rcases (pb_01 x 10 12).symm with e1 | e1
  · rw [e1]
    rw [← s1] at e1
    obtain ⟨f, hf, rfl⟩ := pb_off x (a := 10) (k := 3) (by decide) (by decide) e1
    have i1 : nI (10 + f) - 10 = nI f := by rw [show nI (10 + f) - 10 = nI (10 + f - 10) from pk_sub (b := 10) (by omega), Nat.add_sub_cancel_left]
    have i2 : (8 : Int32) + nI (10 + f) - 10 = nI (8 + f) := by rw [show (8 : Int32) + nI (10 + f) - 10 = nI (8 + (10 + f) - 10) from by rw [show (8 : Int32) + nI (10 + f) = nI (8 + (10 + f)) from nI_add 8 _]; exact pk_sub (b := 10) (by omega)]; congr 1; omega
    simp (disch := omega) only [ev_ck, ev_ci, ev_cv, ev_lt_, ↓reduceIte, ev_lens, ev_ix, ev_nz, ev_cl, ev_cll, ev_add, ev_addl, ev_ladd, ev_mul, ev_mull, ev_lmul, ev_sub, ev_subl, ev_lsub, ev_lt, ev_ltl, ev_llt, ev_le, ev_lel, ev_lle, ev_eq, ev_eql, ev_leq, ev_nm1, ev_nm5, ev_m1n, ev_neg1, ev_ltT, ev_ltF, ev_leT, ev_leF, ev_eqT, ev_eqF, ev_one0, ev_zero1, Nat.reduceAdd, Nat.reduceMul, Nat.reduceSub, ea_pI_eq, ev_pIn, ev_pIe, ea_pI_r, eq_self, i1, xb f hf, pn_l1 hc]
    rw [show 8 + (10 + f) - 10 = 8 + f by omega, yb f hf]
    exact ⟨_, rfl, rfl⟩
  rw [e1, if_pos rfl, if_pos rfl]
  rcases (pb_01 x 20 (19 + nI (n 7))).symm with e2 | e2
  · rw [e2]
    rw [← s2] at e2
    obtain ⟨f, hf, rfl⟩ := pb_off x (a := 20) (k := n 7) (by decide) (by omega) e2
    have i1 : nI (20 + f) - 20 = nI f := by rw [show nI (20 + f) - 20 = nI (20 + f - 20) from pk_sub (b := 20) (by omega), Nat.add_sub_cancel_left]
    have i2 : (11 : Int32) + nI (20 + f) - 20 = nI (11 + f) := by rw [show (11 : Int32) + nI (20 + f) - 20 = nI (11 + (20 + f) - 20) from by rw [show (11 : Int32) + nI (20 + f) = nI (11 + (20 + f)) from nI_add 11 _]; exact pk_sub (b := 20) (by omega)]; congr 1; omega
    simp (disch := omega) only [ev_ck, ev_ci, ev_cv, ev_lt_, ↓reduceIte, ev_lens, ev_ix, ev_nz, ev_cl, ev_cll, ev_add, ev_addl, ev_ladd, ev_mul, ev_mull, ev_lmul, ev_sub, ev_subl, ev_lsub, ev_lt, ev_ltl, ev_llt, ev_le, ev_lel, ev_lle, ev_eq, ev_eql, ev_leq, ev_nm1, ev_nm5, ev_m1n, ev_neg1, ev_ltT, ev_ltF, ev_leT, ev_leF, ev_eqT, ev_eqF, ev_one0, ev_zero1, Nat.reduceAdd, Nat.reduceMul, Nat.reduceSub, ea_pI_eq, ev_pIn, ev_pIe, ea_pI_r, eq_self, i1, xy f hf, pn_l2 hc]
    rw [show 11 + (20 + f) - 20 = 11 + f by omega, yy f hf]
    exact ⟨_, rfl, rfl⟩
  rw [e2, if_pos rfl, if_pos rfl]
  rcases (pb_01 (x - 30) 0 (nI (n 5) - 1)).symm with e3 | e3
  · rw [e3]
    obtain ⟨f, hf, e⟩ := pb_nat0 (by omega) e3
    simp (disch := omega) only [ev_ck, ev_ci, ev_cv, ev_lt_, ↓reduceIte, ev_lens, ev_ix, ev_nz, ev_cl, ev_cll, ev_add, ev_addl, ev_ladd, ev_mul, ev_mull, ev_lmul, ev_sub, ev_subl, ev_lsub, ev_lt, ev_ltl, ev_llt, ev_le, ev_lel, ev_lle, ev_eq, ev_eql, ev_leq, ev_nm1, ev_nm5, ev_m1n, ev_neg1, ev_ltT, ev_ltF, ev_leT, ev_leF, ev_eqT, ev_eqF, ev_one0, ev_zero1, Nat.reduceAdd, Nat.reduceMul, Nat.reduceSub, ea_pI_eq, ev_pIn, ev_pIe, ea_pI_r, eq_self, e, xh f hf, yh f hf, pn_l6 hc]
    exact ⟨_, rfl, rfl⟩
  rw [e3, if_pos rfl, if_pos rfl]
  rcases pb_01 (x - 40) 0 (nI (n 5) - 1) with e4 | e4
  · rw [e4, if_pos rfl, if_pos rfl]
    exact ⟨_, rfl, rfl⟩
  · rw [e4]
    obtain ⟨f, hf, e⟩ := pb_nat0 (by omega) e4
    rw [if_neg (by decide), if_neg (by decide), e, ea_ci_t (px_years hc hX ho hf)]
    exact ⟨_, rfl, py_years hY ho hf e⟩
