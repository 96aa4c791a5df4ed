section SPN
variable {cc N : Nat}
theorem px_sp20 (k38 : Int32 → eM → Option eM) (a1 : Nat) (hN : N ≤ 45) : ∀ (d f x : Nat) (M : eM), N - x = d → x ≤ N → d < f → tx M (t1 x) → ∃ M', fX9_spin_20 k38 a1 f (nI N) (nI x) M = k38 (nI N) M' ∧ tx M' (t1 N) ∧ FrK M M' := by
  intro d
  induction d with
  | zero =>
    intro f x M hd hx hf ht
    obtain ⟨f, rfl⟩ : ∃ f', f = f' + 1 := ⟨f - 1, by omega⟩
    have e : x = N := by omega
    subst e
    exact ⟨M, by rw [fX9_spin_20, if_pos (by rw [pn_leI (by omega) (by omega)]; omega)], ht, FrK.rf M⟩
  | succ d ih =>
    intro f x M hd hx hf ht
    obtain ⟨f, rfl⟩ : ∃ f', f = f' + 1 := ⟨f - 1, by omega⟩
    obtain ⟨M1, a1', a2, a3⟩ := px_addt x 45 ht (by rw [t1_l]; omega)
    have a1' : fX9_add (nI x) 45 M = some M1 := a1'
    obtain ⟨M2, c1, c2, c3⟩ := ih f (x + 1) M1 (by omega) (by omega) (by omega) a2
    refine ⟨M2, ?_, c2, a3.trans c3⟩
    rw [fX9_spin_20, if_neg (by rw [pn_leI (by omega) (by omega)]; omega), a1', ev_cv, show nI x + 1 = nI (x + 1) from nI_add x 1]
    exact c1
theorem trw_s {pre : List (Nat × Nat)} {x b y : Nat} (h : b ≤ y) : pre ++ trw x b (y + 1 - b) = (pre ++ trw x b (y - b)) ++ [(x, y)] := by
  rw [show y + 1 - b = (y - b) + 1 by omega]
  show pre ++ (trw x b (y - b) ++ [(x, b + (y - b))]) = _
  rw [show b + (y - b) = y by omega, List.append_assoc]
theorem px_sp65 (k84 : Int32 → Int32 → eM → Option eM) (a1 : Nat) {pre : List (Nat × Nat)} {x b : Nat} (hN : N ≤ 45) (hl : pre.length + (N - b) ≤ 855) : ∀ (d f y : Nat) (M : eM), N - y = d → b ≤ y → y ≤ N → d < f → tx M (pre ++ trw x b (y - b)) → ∃ M', fX9_spin_65 k84 a1 f (nI N) (nI x) (nI y) M = k84 (nI N) (nI x) M' ∧ tx M' (pre ++ trw x b (N - b)) ∧ FrK M M' := by
  intro d
  induction d with
  | zero =>
    intro f y M hd hb hy hf ht
    obtain ⟨f, rfl⟩ : ∃ f', f = f' + 1 := ⟨f - 1, by omega⟩
    have e : y = N := by omega
    subst e
    exact ⟨M, by rw [fX9_spin_65, if_pos (by rw [pn_leI (by omega) (by omega)]; omega)], ht, FrK.rf M⟩
  | succ d ih =>
    intro f y M hd hb hy hf ht
    obtain ⟨f, rfl⟩ : ∃ f', f = f' + 1 := ⟨f - 1, by omega⟩
    obtain ⟨M1, a1', a2, a3⟩ := px_addt x y ht (by rw [List.length_append, trw_l]; omega)
    rw [← trw_s hb] at a2
    obtain ⟨M2, c1, c2, c3⟩ := ih f (y + 1) M1 (by omega) (by omega) (by omega) (by omega) a2
    refine ⟨M2, ?_, c2, a3.trans c3⟩
    rw [fX9_spin_65, if_neg (by rw [pn_leI (by omega) (by omega)]; omega), a1', ev_cv, show nI y + 1 = nI (y + 1) from nI_add y 1]
    exact c1
theorem px_sp49 (a1 : Nat) {st : Nat} (hs : st ≤ 5) : ∀ (d f x : Nat) (M : eM), 9 * st - x = d → x ≤ 9 * st → d < f → tx M (t2 (9 * st) x) → ∃ M', fX9_spin_49 a1 f (nI (9 * st)) (nI x) M = some M' ∧ tx M' (t2 (9 * st) (9 * st)) ∧ FrK M M' := by
  intro d
  induction d with
  | zero =>
    intro f x M hd hx hf ht
    obtain ⟨f, rfl⟩ : ∃ f', f = f' + 1 := ⟨f - 1, by omega⟩
    have e : x = 9 * st := by omega
    subst e
    exact ⟨M, by rw [fX9_spin_49, if_pos (by rw [pn_leI (by omega) (by omega)]; omega)], ht, FrK.rf M⟩
  | succ d ih =>
    intro f x M hd hx hf ht
    obtain ⟨f, rfl⟩ : ∃ f', f = f' + 1 := ⟨f - 1, by omega⟩
    have e9 : nI x / 9 = nI (x / 9) := by
      rw [show (9 : Int32) = nI 9 from rfl]
      exact pk_div (by omega) (by omega) (by omega)
    have hl : (t2 (9 * st) x).length + (9 * st - (x / 9 + 1) * 9) ≤ 855 := by
      rw [t2_l]
      exact tql_b st (by omega) (x + 1) (by omega)
    obtain ⟨M1, b1, b2, b3⟩ := px_sp65 (N := 9 * st) (fX9_spin_84 (fX9_spin_49 a1 f) a1) a1 (pre := t2 (9 * st) x) (x := x) (b := (x / 9 + 1) * 9) (by omega) hl (9 * st - (x / 9 + 1) * 9) ea_N ((x / 9 + 1) * 9) M rfl (Nat.le_refl _) (by omega) (by unfold ea_N; omega) (by rw [Nat.sub_self]; show tx M (t2 (9 * st) x ++ []); rw [List.append_nil]; exact ht)
    obtain ⟨M2, c1, c2, c3⟩ := ih f (x + 1) M1 (by omega) (by omega) (by omega) b2
    refine ⟨M2, ?_, c2, b3.trans c3⟩
    rw [fX9_spin_49, if_neg (by rw [pn_leI (by omega) (by omega)]; omega), ev_lt_, e9, show nI (x / 9) + 1 = nI (x / 9 + 1) from nI_add _ 1, show nI (x / 9 + 1) * 9 = nI ((x / 9 + 1) * 9) from pk_mul _ 9, b1]
    unfold fX9_spin_84
    rw [show nI x + 1 = nI (x + 1) from nI_add x 1]
    exact c1
theorem px_spin (hc : pn_c cc) {M : eM} {st mo : Nat} (h8 : M.1 cc 8 = nI st) (h3 : M.1 cc 3 = nI mo) (hs : st ≤ 5) (hm : 1 ≤ mo ∧ mo ≤ 2) : ∃ M', fX9_spin cc M = some M' ∧ tx M' (tls st mo) ∧ (∀ c k, c ≠ 5 → c ≠ 6 → (c ≠ 4 ∨ k ≠ 1) → M'.1 c k = M.1 c k) ∧ M'.2.2 = (ea_pR M 4 0 cc).2.2 := by
  have hcc : cc = 10 ∨ cc = 20 := hc
  have w : ∀ c k, (c ≠ 4 ∨ k ≠ 1) → (ea_pI (ea_pR M 4 0 cc) 4 1 0).1 c k = M.1 c k := fun c k h => by
    rw [ea_pI_ne h]
    rfl
  have e8 : (ea_pI (ea_pR M 4 0 cc) 4 1 0).1 cc 8 = nI st := by rw [w _ _ (by omega)]; exact h8
  obtain ⟨M1, a1, a2, a3⟩ := px_sp20 (N := 9 * st) (fX9_spin_38 cc) cc (by omega) (9 * st) ea_N 0 (ea_pI (ea_pR M 4 0 cc) 4 1 0) rfl (Nat.zero_le _) (by unfold ea_N; omega) ⟨ea_pI_eq, fun t ht => absurd ht (Nat.not_lt_zero _)⟩
  have e3 : M1.1 cc 3 = nI mo := by rw [a3.1 _ _ (by omega) (by omega) (by omega), w _ _ (by omega)]; exact h3
  have go : fX9_spin cc M = fX9_spin_38 cc (nI (9 * st)) M1 := by
    unfold fX9_spin fX9_spin_0
    rw [ev_lt_, e8, show nI st * 9 = nI (st * 9) from pk_mul st 9, Nat.mul_comm st 9]
    exact a1
  rw [go]
  unfold fX9_spin_38 tls
  rw [e3]
  by_cases h2 : mo = 2
  · rw [if_pos h2, if_pos (by rw [show (2 : Int32) = nI 2 from rfl, pn_leI (by omega) (by omega)]; omega)]
    obtain ⟨M2, b1, b2, b3⟩ := px_sp49 cc hs (9 * st) ea_N 0 M1 rfl (Nat.zero_le _) (by unfold ea_N; omega) a2
    refine ⟨M2, b1, b2, fun c k p q r => ?_, ?_⟩
    · rw [b3.1 _ _ p q r, a3.1 _ _ p q r, w _ _ r]
    · rw [b3.2, a3.2]
      rfl
  · rw [if_neg h2, if_neg (by rw [show (2 : Int32) = nI 2 from rfl, pn_leI (by omega) (by omega)]; omega)]
    refine ⟨M1, rfl, a2, fun c k p q r => ?_, ?_⟩
    · rw [a3.1 _ _ p q r, w _ _ r]
    · rw [a3.2]
      rfl
theorem px_endc (hc : pn_c cc) {M : eM} {c st mo : Nat} (hc2 : pn_c c) (r0 : M.2.2 0 3 = cc) (r4 : M.2.2 4 0 = c) (h8 : M.1 cc 8 = nI st) (h3 : M.1 cc 3 = nI mo) (hs : st ≤ 5) (hm : 1 ≤ mo ∧ mo ≤ 2) : ∃ M', fX10_cloth_64 1 M = some (M.1 cc 4, M') ∧ M'.2.2 4 0 = cc ∧ M'.2.2 0 3 = c ∧ tx M' (tls st mo) ∧ M'.1 1 1 = 0 ∧ (M'.1 30 3 = 0 ∧ M'.1 30 4 = 0 ∧ M'.1 30 5 = 0 ∧ M'.1 30 6 = 0) ∧ (∀ j, j < 3 → M'.1 (34 + 4 * j) 7 = 0) ∧ (∀ a k, a ≠ 5 → a ≠ 6 → (a ≠ 4 ∨ k ≠ 1) → (a ≠ 1 ∨ k ≠ 1) → (a ≠ 30 ∨ k < 3 ∨ 6 < k) → ((a ≠ 34 ∧ a ≠ 38 ∧ a ≠ 42) ∨ k ≠ 7) → M'.1 a k = M.1 a k) := by
  have hcc : cc = 10 ∨ cc = 20 := hc
  obtain ⟨M1, a1, a2, a3, a4⟩ := px_spin hc (M := ea_pI M 1 1 0) (st := st) (mo := mo) (by rw [ea_pI_ne (by omega)]; exact h8) (by rw [ea_pI_ne (by omega)]; exact h3) hs hm
  have s1 : ∀ (n i : Nat) (M : eM), i < 3 → fX10_cloth_111 fX10_cloth_136 (n + 1) (nI i) M = fX10_cloth_111 fX10_cloth_136 n (nI (i + 1)) (ea_pI M (34 + 4 * i) 7 0) := by
    intro n i M hi
    rw [fX10_cloth_111, show ea_len 46 = 3 from rfl, if_neg (by rw [pn_leI (by omega) (by omega)]; omega), ev_ix (by omega) (by omega), ev_ck, ev_cl (by omega), show nI i + 1 = nI (i + 1) from nI_add i 1]
  obtain ⟨M9, hM9⟩ : ∃ M9, M9 = ea_pI (ea_pI (ea_pI (ea_pI (ea_pI (ea_pI (ea_pI (ea_pR M1 0 3 c) 30 3 0) 30 4 0) 30 5 0) 30 6 0) (34 + 4 * 0) 7 0) (34 + 4 * (0 + 1)) 7 0) (34 + 4 * (0 + 1 + 1)) 7 0 := ⟨_, rfl⟩
  have q4 : M9.2.2 4 0 = cc := by
    rw [hM9]
    show (ea_pR M1 0 3 c).2.2 4 0 = cc
    rw [pR_ne (by omega), a4]
    exact pR_eq
  have q0 : M9.2.2 0 3 = c := by
    rw [hM9]
    show (ea_pR M1 0 3 c).2.2 0 3 = c
    exact pR_eq
  have w : ∀ a k, (a ≠ 30 ∨ k < 3 ∨ 6 < k) → ((a ≠ 34 ∧ a ≠ 38 ∧ a ≠ 42) ∨ k ≠ 7) → M9.1 a k = M1.1 a k := fun a k h1 h2 => by
    rw [hM9, ea_pI_ne (by omega), ea_pI_ne (by omega), ea_pI_ne (by omega), ea_pI_ne (by omega), ea_pI_ne (by omega), ea_pI_ne (by omega), ea_pI_ne (by omega)]
    rfl
  have w2 : ∀ a k, a ≠ 5 → a ≠ 6 → (a ≠ 4 ∨ k ≠ 1) → (a ≠ 1 ∨ k ≠ 1) → (a ≠ 30 ∨ k < 3 ∨ 6 < k) → ((a ≠ 34 ∧ a ≠ 38 ∧ a ≠ 42) ∨ k ≠ 7) → M9.1 a k = M.1 a k := fun a k h1 h2 h3 h4 h5 h6 => by
    rw [w _ _ h5 h6, a3 _ _ h1 h2 h3, ea_pI_ne h4]
  have go : fX10_cloth_64 1 M = some (M9.1 cc 4, M9) := by
    have r0' : (ea_pI M 1 1 0).2.2 0 3 = cc := r0
    have r4' : (ea_pI M 1 1 0).2.2 4 0 = c := r4
    unfold fX10_cloth_64
    rw [if_neg (show ¬ (1 : Int32) = 0 by decide), r4', r0', pn_is hc2, pn_is hc, ev_ck, ev_lt_, ev_ck, a1, ev_cv]
    unfold fX8_clear fX8_clear_0
    rw [ev_cv]
    show fX10_cloth_111 fX10_cloth_136 (99996 + 1 + 1 + 1 + 1) (nI 0) _ = _
    rw [s1 _ 0 _ (by omega), s1 _ (0 + 1) _ (by omega), s1 _ (0 + 1 + 1) _ (by omega), ← hM9, fX10_cloth_111, show ea_len 46 = 3 from rfl, if_pos (by decide)]
    unfold fX10_cloth_136
    rw [q4, pn_is hc, ev_ck]
  refine ⟨M9, ?_, q4, q0, ?_, ?_, ⟨?_, ?_, ?_, ?_⟩, fun j hj => ?_, w2⟩
  · rw [go, w2 _ _ (by omega) (by omega) (by omega) (by omega) (by omega) (by omega)]
  · obtain ⟨u1, u2⟩ := a2
    refine ⟨by rw [w _ _ (by omega) (by omega)]; exact u1, fun t ht => ?_⟩
    rw [w _ _ (by omega) (by omega), w _ _ (by omega) (by omega)]
    exact u2 t ht
  · rw [w _ _ (by omega) (by omega), a3 _ _ (by omega) (by omega) (by omega), ea_pI_eq]
  · rw [hM9]; simp (disch := omega) only [ev_ck, ev_ci, ev_cv, ev_lt_, ↓reduceIte, ev_lens, ev_ix, ev_nz, ev_cl, ev_cll, ev_add, ev_addl, ev_ladd, ev_mul, ev_mull, ev_lmul, ev_sub, ev_subl, ev_lsub, ev_lt, ev_ltl, ev_llt, ev_le, ev_lel, ev_lle, ev_eq, ev_eql, ev_leq, ev_nm1, ev_nm5, ev_m1n, ev_neg1, ev_ltT, ev_ltF, ev_leT, ev_leF, ev_eqT, ev_eqF, ev_one0, ev_zero1, Nat.reduceAdd, Nat.reduceMul, Nat.reduceSub, ea_pI_eq, ev_pIn, ev_pIe, ea_pI_r, eq_self]
  · rw [hM9]; simp (disch := omega) only [ev_ck, ev_ci, ev_cv, ev_lt_, ↓reduceIte, ev_lens, ev_ix, ev_nz, ev_cl, ev_cll, ev_add, ev_addl, ev_ladd, ev_mul, ev_mull, ev_lmul, ev_sub, ev_subl, ev_lsub, ev_lt, ev_ltl, ev_llt, ev_le, ev_lel, ev_lle, ev_eq, ev_eql, ev_leq, ev_nm1, ev_nm5, ev_m1n, ev_neg1, ev_ltT, ev_ltF, ev_leT, ev_leF, ev_eqT, ev_eqF, ev_one0, ev_zero1, Nat.reduceAdd, Nat.reduceMul, Nat.reduceSub, ea_pI_eq, ev_pIn, ev_pIe, ea_pI_r, eq_self]
  · rw [hM9]; simp (disch := omega) only [ev_ck, ev_ci, ev_cv, ev_lt_, ↓reduceIte, ev_lens, ev_ix, ev_nz, ev_cl, ev_cll, ev_add, ev_addl, ev_ladd, ev_mul, ev_mull, ev_lmul, ev_sub, ev_subl, ev_lsub, ev_lt, ev_ltl, ev_llt, ev_le, ev_lel, ev_lle, ev_eq, ev_eql, ev_leq, ev_nm1, ev_nm5, ev_m1n, ev_neg1, ev_ltT, ev_ltF, ev_leT, ev_leF, ev_eqT, ev_eqF, ev_one0, ev_zero1, Nat.reduceAdd, Nat.reduceMul, Nat.reduceSub, ea_pI_eq, ev_pIn, ev_pIe, ea_pI_r, eq_self]
  · rw [hM9]; simp (disch := omega) only [ev_ck, ev_ci, ev_cv, ev_lt_, ↓reduceIte, ev_lens, ev_ix, ev_nz, ev_cl, ev_cll, ev_add, ev_addl, ev_ladd, ev_mul, ev_mull, ev_lmul, ev_sub, ev_subl, ev_lsub, ev_lt, ev_ltl, ev_llt, ev_le, ev_lel, ev_lle, ev_eq, ev_eql, ev_leq, ev_nm1, ev_nm5, ev_m1n, ev_neg1, ev_ltT, ev_ltF, ev_leT, ev_leF, ev_eqT, ev_eqF, ev_one0, ev_zero1, Nat.reduceAdd, Nat.reduceMul, Nat.reduceSub, ea_pI_eq, ev_pIn, ev_pIe, ea_pI_r, eq_self]
  · rcases (show j = 0 ∨ j = 1 ∨ j = 2 by omega) with e | e | e <;> subst e <;> rw [hM9]
    · simp (disch := omega) only [ev_ck, ev_ci, ev_cv, ev_lt_, ↓reduceIte, ev_lens, ev_ix, ev_nz, ev_cl, ev_cll, ev_add, ev_addl, ev_ladd, ev_mul, ev_mull, ev_lmul, ev_sub, ev_subl, ev_lsub, ev_lt, ev_ltl, ev_llt, ev_le, ev_lel, ev_lle, ev_eq, ev_eql, ev_leq, ev_nm1, ev_nm5, ev_m1n, ev_neg1, ev_ltT, ev_ltF, ev_leT, ev_leF, ev_eqT, ev_eqF, ev_one0, ev_zero1, Nat.reduceAdd, Nat.reduceMul, Nat.reduceSub, ea_pI_eq, ev_pIn, ev_pIe, ea_pI_r, eq_self]
    · simp (disch := omega) only [ev_ck, ev_ci, ev_cv, ev_lt_, ↓reduceIte, ev_lens, ev_ix, ev_nz, ev_cl, ev_cll, ev_add, ev_addl, ev_ladd, ev_mul, ev_mull, ev_lmul, ev_sub, ev_subl, ev_lsub, ev_lt, ev_ltl, ev_llt, ev_le, ev_lel, ev_lle, ev_eq, ev_eql, ev_leq, ev_nm1, ev_nm5, ev_m1n, ev_neg1, ev_ltT, ev_ltF, ev_leT, ev_leF, ev_eqT, ev_eqF, ev_one0, ev_zero1, Nat.reduceAdd, Nat.reduceMul, Nat.reduceSub, ea_pI_eq, ev_pIn, ev_pIe, ea_pI_r, eq_self]
    · simp (disch := omega) only [ev_ck, ev_ci, ev_cv, ev_lt_, ↓reduceIte, ev_lens, ev_ix, ev_nz, ev_cl, ev_cll, ev_add, ev_addl, ev_ladd, ev_mul, ev_mull, ev_lmul, ev_sub, ev_subl, ev_lsub, ev_lt, ev_ltl, ev_llt, ev_le, ev_lel, ev_lle, ev_eq, ev_eql, ev_leq, ev_nm1, ev_nm5, ev_m1n, ev_neg1, ev_ltT, ev_ltF, ev_leT, ev_leF, ev_eqT, ev_eqF, ev_one0, ev_zero1, Nat.reduceAdd, Nat.reduceMul, Nat.reduceSub, ea_pI_eq, ev_pIn, ev_pIe, ea_pI_r, eq_self]
end SPN
