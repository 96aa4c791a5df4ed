theorem ev_cpok {a b m : Nat} (h1 : m ≤ ea_len a) (h2 : m ≤ ea_len b) (h : m < 2147483648) : ea_cpok a b (nI m) = true := by
  unfold ea_cpok
  rw [nI_clamp h]
  simp only [Bool.and_eq_true, decide_eq_true_eq]
  exact ⟨⟨nI_pos h, h1⟩, h2⟩
theorem ev_cpn {M : eM} {a b q j : Nat} {n : Int32} (h : q ≠ b) : (ea_cp M a b n).1 q j = M.1 q j := by
  show (if q = b then va_cpy (M.1 a) (M.1 b) 0 0 n.toNatClampNeg else M.1 q) j = _
  rw [if_neg h]
theorem ev_cpi {M : eM} {a b q j m : Nat} (h : q = b) (hj : j < m) (hm : m < 2147483648) : (ea_cp M a b (nI m)).1 q j = M.1 a j := by
  subst h
  rw [ea_cp_s, nI_clamp hm, pk_cpy_in (Nat.zero_le _) (by omega)]
  rw [Nat.zero_add, Nat.sub_zero]
theorem isKC_in {c k : Nat} (h : isKC c k = true) : (c = 4 ∧ k = 1) ∨ c = 5 ∨ c = 6 ∨ (10 ≤ c ∧ c ≤ 29) ∨ c = 102 ∨ (106 ≤ c ∧ c ≤ 113) ∨ (c = 100 ∧ (k = 20 ∨ k = 22)) := by
  have key : ∀ c, c < 115 → isKCc c = true → (c = 5 ∨ c = 6 ∨ (10 ≤ c ∧ c ≤ 29) ∨ c = 102 ∨ (106 ≤ c ∧ c ≤ 113)) := by decide +kernel
  unfold isKC at h
  by_cases hc : isKCc c = true
  · rcases Nat.lt_or_ge c 115 with q | q
    · have := key c q hc; omega
    · exfalso
      unfold isKCc at hc
      simp only [List.contains_eq_mem, List.mem_cons, List.not_mem_nil, or_false, decide_eq_true_eq] at hc
      omega
  · simp only [hc, Bool.false_or, Bool.or_eq_true, Bool.and_eq_true, beq_iff_eq] at h
    omega
theorem px_copy {M : eM} {a0 a1 : Nat} (h0 : pn_a a0) (h1 : pn_a a1) (hs : a0 + 4 ≤ a1 ∨ a1 + 4 ≤ a0) {q : Nat → Nat} {l t r : Nat → Nat → Nat} (hok : pn_Lok q l t r) (h : pn_LX M a1 q l t r) :
    ∃ M1, fX8_copyFrom a0 a1 M = some M1 ∧ pn_LX M1 a0 q l t r ∧ (∀ c k, ¬ (a0 ≤ c ∧ c ≤ a0 + 3) → M1.1 c k = M.1 c k) ∧ M1.1 a0 7 = M.1 a0 7 ∧ M1.2.2 = M.2.2 := by
  obtain ⟨⟨e3, e4, e5, e6⟩, hl, ht, hr⟩ := h
  have o0 := hok.1
  have o1 := hok.2.1
  have o2 := hok.2.2.1
  have L1 := pn_la1 h0
  have L2 := pn_la2 h0
  have L3 := pn_la3 h0
  have L4 := pn_la1 h1
  have L5 := pn_la2 h1
  have L6 := pn_la3 h1
  have run : fX8_copyFrom a0 a1 M = some (ea_cp (ea_cp (ea_cp (ea_pI (ea_pI (ea_pI (ea_pI M a0 3 (nI (q 0))) a0 4 (nI (q 1))) a0 5 (nI (q 2))) a0 6 (nI (q 3))) (a1 + 1) (a0 + 1) (nI (q 0 * 6))) (a1 + 2) (a0 + 2) (nI (q 1 * 6))) (a1 + 3) (a0 + 3) (nI (q 2 * 6))) := by
    rcases hs with hs | hs <;> simp (disch := omega) only [ev_ck, ev_ci, ev_cv, ev_lt_, ↓reduceIte, ev_lens, ev_ix, ev_nz, ev_cl, ev_cll, ev_add, ev_addl, ev_ladd, ev_mul, ev_mull, ev_lmul, ev_sub, ev_subl, ev_lsub, ev_lt, ev_ltl, ev_llt, ev_le, ev_lel, ev_lle, ev_eq, ev_eql, ev_leq, ev_nm1, ev_nm5, ev_m1n, ev_neg1, ev_ltT, ev_ltF, ev_leT, ev_leF, ev_eqT, ev_eqF, ev_one0, ev_zero1, Nat.reduceAdd, Nat.reduceMul, Nat.reduceSub, ea_pI_eq, ev_pIn, ev_pIe, ea_pI_r, eq_self, fX8_copyFrom, fX8_copyFrom_0, ev_cpok, ev_cpn, e3, e4, e5, e6]
  refine ⟨_, run, ⟨⟨?_, ?_, ?_, ?_⟩, ?_, ?_, ?_⟩, ?_, ?_, rfl⟩
  · simp (disch := omega) only [ev_ck, ev_ci, ev_cv, ev_lt_, ↓reduceIte, ev_lens, ev_ix, ev_nz, ev_cl, ev_cll, ev_add, ev_addl, ev_ladd, ev_mul, ev_mull, ev_lmul, ev_sub, ev_subl, ev_lsub, ev_lt, ev_ltl, ev_llt, ev_le, ev_lel, ev_lle, ev_eq, ev_eql, ev_leq, ev_nm1, ev_nm5, ev_m1n, ev_neg1, ev_ltT, ev_ltF, ev_leT, ev_leF, ev_eqT, ev_eqF, ev_one0, ev_zero1, Nat.reduceAdd, Nat.reduceMul, Nat.reduceSub, ea_pI_eq, ev_pIn, ev_pIe, ea_pI_r, eq_self, ev_cpn]
  · simp (disch := omega) only [ev_ck, ev_ci, ev_cv, ev_lt_, ↓reduceIte, ev_lens, ev_ix, ev_nz, ev_cl, ev_cll, ev_add, ev_addl, ev_ladd, ev_mul, ev_mull, ev_lmul, ev_sub, ev_subl, ev_lsub, ev_lt, ev_ltl, ev_llt, ev_le, ev_lel, ev_lle, ev_eq, ev_eql, ev_leq, ev_nm1, ev_nm5, ev_m1n, ev_neg1, ev_ltT, ev_ltF, ev_leT, ev_leF, ev_eqT, ev_eqF, ev_one0, ev_zero1, Nat.reduceAdd, Nat.reduceMul, Nat.reduceSub, ea_pI_eq, ev_pIn, ev_pIe, ea_pI_r, eq_self, ev_cpn]
  · simp (disch := omega) only [ev_ck, ev_ci, ev_cv, ev_lt_, ↓reduceIte, ev_lens, ev_ix, ev_nz, ev_cl, ev_cll, ev_add, ev_addl, ev_ladd, ev_mul, ev_mull, ev_lmul, ev_sub, ev_subl, ev_lsub, ev_lt, ev_ltl, ev_llt, ev_le, ev_lel, ev_lle, ev_eq, ev_eql, ev_leq, ev_nm1, ev_nm5, ev_m1n, ev_neg1, ev_ltT, ev_ltF, ev_leT, ev_leF, ev_eqT, ev_eqF, ev_one0, ev_zero1, Nat.reduceAdd, Nat.reduceMul, Nat.reduceSub, ea_pI_eq, ev_pIn, ev_pIe, ea_pI_r, eq_self, ev_cpn]
  · simp (disch := omega) only [ev_ck, ev_ci, ev_cv, ev_lt_, ↓reduceIte, ev_lens, ev_ix, ev_nz, ev_cl, ev_cll, ev_add, ev_addl, ev_ladd, ev_mul, ev_mull, ev_lmul, ev_sub, ev_subl, ev_lsub, ev_lt, ev_ltl, ev_llt, ev_le, ev_lel, ev_lle, ev_eq, ev_eql, ev_leq, ev_nm1, ev_nm5, ev_m1n, ev_neg1, ev_ltT, ev_ltF, ev_leT, ev_leF, ev_eqT, ev_eqF, ev_one0, ev_zero1, Nat.reduceAdd, Nat.reduceMul, Nat.reduceSub, ea_pI_eq, ev_pIn, ev_pIe, ea_pI_r, eq_self, ev_cpn]
  · intro i k hi hk
    rcases hs with hs | hs <;> simp (disch := omega) only [ev_ck, ev_ci, ev_cv, ev_lt_, ↓reduceIte, ev_lens, ev_ix, ev_nz, ev_cl, ev_cll, ev_add, ev_addl, ev_ladd, ev_mul, ev_mull, ev_lmul, ev_sub, ev_subl, ev_lsub, ev_lt, ev_ltl, ev_llt, ev_le, ev_lel, ev_lle, ev_eq, ev_eql, ev_leq, ev_nm1, ev_nm5, ev_m1n, ev_neg1, ev_ltT, ev_ltF, ev_leT, ev_leF, ev_eqT, ev_eqF, ev_one0, ev_zero1, Nat.reduceAdd, Nat.reduceMul, Nat.reduceSub, ea_pI_eq, ev_pIn, ev_pIe, ea_pI_r, eq_self, ev_cpn, ev_cpi] <;> exact hl i k hi hk
  · intro i k hi hk
    rcases hs with hs | hs <;> simp (disch := omega) only [ev_ck, ev_ci, ev_cv, ev_lt_, ↓reduceIte, ev_lens, ev_ix, ev_nz, ev_cl, ev_cll, ev_add, ev_addl, ev_ladd, ev_mul, ev_mull, ev_lmul, ev_sub, ev_subl, ev_lsub, ev_lt, ev_ltl, ev_llt, ev_le, ev_lel, ev_lle, ev_eq, ev_eql, ev_leq, ev_nm1, ev_nm5, ev_m1n, ev_neg1, ev_ltT, ev_ltF, ev_leT, ev_leF, ev_eqT, ev_eqF, ev_one0, ev_zero1, Nat.reduceAdd, Nat.reduceMul, Nat.reduceSub, ea_pI_eq, ev_pIn, ev_pIe, ea_pI_r, eq_self, ev_cpn, ev_cpi] <;> exact ht i k hi hk
  · intro i hi
    refine ⟨?_, ?_, fun k hk => ?_⟩
    · rcases hs with hs | hs <;> simp (disch := omega) only [ev_ck, ev_ci, ev_cv, ev_lt_, ↓reduceIte, ev_lens, ev_ix, ev_nz, ev_cl, ev_cll, ev_add, ev_addl, ev_ladd, ev_mul, ev_mull, ev_lmul, ev_sub, ev_subl, ev_lsub, ev_lt, ev_ltl, ev_llt, ev_le, ev_lel, ev_lle, ev_eq, ev_eql, ev_leq, ev_nm1, ev_nm5, ev_m1n, ev_neg1, ev_ltT, ev_ltF, ev_leT, ev_leF, ev_eqT, ev_eqF, ev_one0, ev_zero1, Nat.reduceAdd, Nat.reduceMul, Nat.reduceSub, ea_pI_eq, ev_pIn, ev_pIe, ea_pI_r, eq_self, ev_cpn, ev_cpi] <;> exact (hr i hi).1
    · rcases hs with hs | hs <;> simp (disch := omega) only [ev_ck, ev_ci, ev_cv, ev_lt_, ↓reduceIte, ev_lens, ev_ix, ev_nz, ev_cl, ev_cll, ev_add, ev_addl, ev_ladd, ev_mul, ev_mull, ev_lmul, ev_sub, ev_subl, ev_lsub, ev_lt, ev_ltl, ev_llt, ev_le, ev_lel, ev_lle, ev_eq, ev_eql, ev_leq, ev_nm1, ev_nm5, ev_m1n, ev_neg1, ev_ltT, ev_ltF, ev_leT, ev_leF, ev_eqT, ev_eqF, ev_one0, ev_zero1, Nat.reduceAdd, Nat.reduceMul, Nat.reduceSub, ea_pI_eq, ev_pIn, ev_pIe, ea_pI_r, eq_self, ev_cpn, ev_cpi] <;> exact (hr i hi).2.1
    · rcases hs with hs | hs <;> simp (disch := omega) only [ev_ck, ev_ci, ev_cv, ev_lt_, ↓reduceIte, ev_lens, ev_ix, ev_nz, ev_cl, ev_cll, ev_add, ev_addl, ev_ladd, ev_mul, ev_mull, ev_lmul, ev_sub, ev_subl, ev_lsub, ev_lt, ev_ltl, ev_llt, ev_le, ev_lel, ev_lle, ev_eq, ev_eql, ev_leq, ev_nm1, ev_nm5, ev_m1n, ev_neg1, ev_ltT, ev_ltF, ev_leT, ev_leF, ev_eqT, ev_eqF, ev_one0, ev_zero1, Nat.reduceAdd, Nat.reduceMul, Nat.reduceSub, ea_pI_eq, ev_pIn, ev_pIe, ea_pI_r, eq_self, ev_cpn, ev_cpi] <;> exact (hr i hi).2.2 k hk
  · intro c k hc
    simp (disch := omega) only [ev_ck, ev_ci, ev_cv, ev_lt_, ↓reduceIte, ev_lens, ev_ix, ev_nz, ev_cl, ev_cll, ev_add, ev_addl, ev_ladd, ev_mul, ev_mull, ev_lmul, ev_sub, ev_subl, ev_lsub, ev_lt, ev_ltl, ev_llt, ev_le, ev_lel, ev_lle, ev_eq, ev_eql, ev_leq, ev_nm1, ev_nm5, ev_m1n, ev_neg1, ev_ltT, ev_ltF, ev_leT, ev_leF, ev_eqT, ev_eqF, ev_one0, ev_zero1, Nat.reduceAdd, Nat.reduceMul, Nat.reduceSub, ea_pI_eq, ev_pIn, ev_pIe, ea_pI_r, eq_self, ev_cpn]
  · simp (disch := omega) only [ev_ck, ev_ci, ev_cv, ev_lt_, ↓reduceIte, ev_lens, ev_ix, ev_nz, ev_cl, ev_cll, ev_add, ev_addl, ev_ladd, ev_mul, ev_mull, ev_lmul, ev_sub, ev_subl, ev_lsub, ev_lt, ev_ltl, ev_llt, ev_le, ev_lel, ev_lle, ev_eq, ev_eql, ev_leq, ev_nm1, ev_nm5, ev_m1n, ev_neg1, ev_ltT, ev_ltF, ev_leT, ev_leF, ev_eqT, ev_eqF, ev_one0, ev_zero1, Nat.reduceAdd, Nat.reduceMul, Nat.reduceSub, ea_pI_eq, ev_pIn, ev_pIe, ea_pI_r, eq_self, ev_cpn]
theorem pn_LY.mv {M M' : eM} {b b' : Nat} {q : Nat → Nat} {l t r : Nat → Nat → Nat} (hok : pn_Lok q l t r) (hs : ∀ k, k < 854 → M'.1 114 (b' + k) = M.1 114 (b + k)) (h : pn_LY M b q l t r) : pn_LY M' b' q l t r := by
  obtain ⟨h1, h2, h3, h4⟩ := h
  obtain ⟨o1, o2, o3, -⟩ := hok
  refine ⟨fun k hk => by rw [hs _ (by omega)]; exact h1 k hk, fun i k hi hk => ?_, fun i k hi hk => ?_, fun i k hi hk => ?_⟩
  · rw [show b' + 4 + 7 * i + k = b' + (4 + 7 * i + k) by omega, hs _ (by omega), show b + (4 + 7 * i + k) = b + 4 + 7 * i + k by omega]; exact h2 i k hi hk
  · rw [show b' + 634 + 6 * i + k = b' + (634 + 6 * i + k) by omega, hs _ (by omega), show b + (634 + 6 * i + k) = b + 634 + 6 * i + k by omega]; exact h3 i k hi hk
  · rw [show b' + 754 + 5 * i + k = b' + (754 + 5 * i + k) by omega, hs _ (by omega), show b + (754 + 5 * i + k) = b + 754 + 5 * i + k by omega]; exact h4 i k hi hk
theorem py_keep (k52 : eM → Option (Int32 × eM)) {M : eM} {s : Nat} (hs : s < 3) : ∃ M', fX11_keep_19 k52 ea_N (nI s) 0 M = k52 M' ∧ (∀ j, j < 854 → M'.1 114 (854 * (s + 1) + j) = M.1 114 j) ∧ (∀ c k, c ≠ 114 ∨ k < 854 * (s + 1) ∨ 854 * (s + 1) + 854 ≤ k → M'.1 c k = M.1 c k) ∧ M'.2.2 = M.2.2 := by
  have lp : ∀ (d k i : Nat) (M1 : eM), 854 - i = d → i ≤ 854 → d < k → (∀ j, j < i → M1.1 114 (854 * (s + 1) + j) = M.1 114 j) → (∀ c k, c ≠ 114 ∨ k < 854 * (s + 1) ∨ 854 * (s + 1) + i ≤ k → M1.1 c k = M.1 c k) → M1.2.2 = M.2.2 → ∃ M', fX11_keep_19 k52 k (nI s) (nI i) M1 = k52 M' ∧ (∀ j, j < 854 → M'.1 114 (854 * (s + 1) + j) = M.1 114 j) ∧ (∀ c k, c ≠ 114 ∨ k < 854 * (s + 1) ∨ 854 * (s + 1) + 854 ≤ k → M'.1 c k = M.1 c k) ∧ M'.2.2 = M.2.2 := by
    intro d
    induction d with
    | zero =>
      intro k i M1 hd hi hk a1 a2 a3
      obtain ⟨k, rfl⟩ : ∃ k', k = k' + 1 := ⟨k - 1, by omega⟩
      obtain rfl : i = 854 := by omega
      refine ⟨M1, ?_, a1, a2, a3⟩
      simp (disch := omega) only [ev_ck, ev_ci, ev_cv, ev_lt_, ↓reduceIte, ev_lens, ev_ix, ev_nz, ev_cl, ev_cll, ev_add, ev_addl, ev_ladd, ev_mul, ev_mull, ev_lmul, ev_sub, ev_subl, ev_lsub, ev_lt, ev_ltl, ev_llt, ev_le, ev_lel, ev_lle, ev_eq, ev_eql, ev_leq, ev_nm1, ev_nm5, ev_m1n, ev_neg1, ev_ltT, ev_ltF, ev_leT, ev_leF, ev_eqT, ev_eqF, ev_one0, ev_zero1, Nat.reduceAdd, Nat.reduceMul, Nat.reduceSub, ea_pI_eq, ev_pIn, ev_pIe, ea_pI_r, eq_self, fX11_keep_19]
    | succ d ih =>
      intro k i M1 hd hi hk a1 a2 a3
      obtain ⟨k, rfl⟩ : ∃ k', k = k' + 1 := ⟨k - 1, by omega⟩
      have g := a2 114 i (by omega)
      obtain ⟨M', r1, r2⟩ := ih k (i + 1) (ea_pI M1 114 (854 * (s + 1) + i) (M.1 114 i)) (by omega) (by omega) (by omega) (fun j hj => by
        by_cases hji : j = i
        · subst hji; exact ea_pI_eq
        · rw [ea_pI_ne (by omega)]; exact a1 j (by omega)) (fun c k h => by rw [ea_pI_ne (by omega)]; exact a2 c k (by omega)) a3
      refine ⟨M', ?_, r2⟩
      simp (disch := omega) only [ev_ck, ev_ci, ev_cv, ev_lt_, ↓reduceIte, ev_lens, ev_ix, ev_nz, ev_cl, ev_cll, ev_add, ev_addl, ev_ladd, ev_mul, ev_mull, ev_lmul, ev_sub, ev_subl, ev_lsub, ev_lt, ev_ltl, ev_llt, ev_le, ev_lel, ev_lle, ev_eq, ev_eql, ev_leq, ev_nm1, ev_nm5, ev_m1n, ev_neg1, ev_ltT, ev_ltF, ev_leT, ev_leF, ev_eqT, ev_eqF, ev_one0, ev_zero1, Nat.reduceAdd, Nat.reduceMul, Nat.reduceSub, ea_pI_eq, ev_pIn, ev_pIe, ea_pI_r, eq_self, fX11_keep_19, g]
      exact r1
  exact lp 854 ea_N 0 M (by omega) (by omega) (by unfold ea_N; omega) (fun j hj => absurd hj (by omega)) (fun c k _ => rfl) rfl
theorem py_take (k57 : eM → Option (Int32 × eM)) {M : eM} {s : Nat} (hs : s < 3) : ∃ M', fX11_take_24 k57 ea_N (nI s) 0 M = k57 M' ∧ (∀ j, j < 854 → M'.1 114 j = M.1 114 (854 * (s + 1) + j)) ∧ (∀ c k, c ≠ 114 ∨ 854 ≤ k → M'.1 c k = M.1 c k) ∧ M'.2.2 = M.2.2 := by
  have lp : ∀ (d k i : Nat) (M1 : eM), 854 - i = d → i ≤ 854 → d < k → (∀ j, j < i → M1.1 114 j = M.1 114 (854 * (s + 1) + j)) → (∀ c k, c ≠ 114 ∨ i ≤ k → M1.1 c k = M.1 c k) → M1.2.2 = M.2.2 → ∃ M', fX11_take_24 k57 k (nI s) (nI i) M1 = k57 M' ∧ (∀ j, j < 854 → M'.1 114 j = M.1 114 (854 * (s + 1) + j)) ∧ (∀ c k, c ≠ 114 ∨ 854 ≤ k → M'.1 c k = M.1 c k) ∧ M'.2.2 = M.2.2 := by
    intro d
    induction d with
    | zero =>
      intro k i M1 hd hi hk a1 a2 a3
      obtain ⟨k, rfl⟩ : ∃ k', k = k' + 1 := ⟨k - 1, by omega⟩
      obtain rfl : i = 854 := by omega
      refine ⟨M1, ?_, a1, a2, a3⟩
      simp (disch := omega) only [ev_ck, ev_ci, ev_cv, ev_lt_, ↓reduceIte, ev_lens, ev_ix, ev_nz, ev_cl, ev_cll, ev_add, ev_addl, ev_ladd, ev_mul, ev_mull, ev_lmul, ev_sub, ev_subl, ev_lsub, ev_lt, ev_ltl, ev_llt, ev_le, ev_lel, ev_lle, ev_eq, ev_eql, ev_leq, ev_nm1, ev_nm5, ev_m1n, ev_neg1, ev_ltT, ev_ltF, ev_leT, ev_leF, ev_eqT, ev_eqF, ev_one0, ev_zero1, Nat.reduceAdd, Nat.reduceMul, Nat.reduceSub, ea_pI_eq, ev_pIn, ev_pIe, ea_pI_r, eq_self, fX11_take_24]
    | succ d ih =>
      intro k i M1 hd hi hk a1 a2 a3
      obtain ⟨k, rfl⟩ : ∃ k', k = k' + 1 := ⟨k - 1, by omega⟩
      have g := a2 114 (854 * (s + 1) + i) (by omega)
      obtain ⟨M', r1, r2⟩ := ih k (i + 1) (ea_pI M1 114 i (M.1 114 (854 * (s + 1) + i))) (by omega) (by omega) (by omega) (fun j hj => by
        by_cases hji : j = i
        · subst hji; exact ea_pI_eq
        · rw [ea_pI_ne (by omega)]; exact a1 j (by omega)) (fun c k h => by rw [ea_pI_ne (by omega)]; exact a2 c k (by omega)) a3
      refine ⟨M', ?_, r2⟩
      simp (disch := omega) only [ev_ck, ev_ci, ev_cv, ev_lt_, ↓reduceIte, ev_lens, ev_ix, ev_nz, ev_cl, ev_cll, ev_add, ev_addl, ev_ladd, ev_mul, ev_mull, ev_lmul, ev_sub, ev_subl, ev_lsub, ev_lt, ev_ltl, ev_llt, ev_le, ev_lel, ev_lle, ev_eq, ev_eql, ev_leq, ev_nm1, ev_nm5, ev_m1n, ev_neg1, ev_ltT, ev_ltF, ev_leT, ev_leF, ev_eqT, ev_eqF, ev_one0, ev_zero1, Nat.reduceAdd, Nat.reduceMul, Nat.reduceSub, ea_pI_eq, ev_pIn, ev_pIe, ea_pI_r, eq_self, fX11_take_24, g]
      exact r1
  exact lp 854 ea_N 0 M (by omega) (by omega) (by unfold ea_N; omega) (fun j hj => absurd hj (by omega)) (fun c k _ => rfl) rfl
