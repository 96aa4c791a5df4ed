def eyE (v : Nat → Nat → Nat) (e k c : Nat) : Nat := v 5 (e * 9 + k * 3 + c)
section TH
variable {M : eM} {cc th : Nat} {n : Nat → Nat} {v : Nat → Nat → Nat} {o w q : Nat → Nat} {l t r : Nat → Nat → Nat} {e : Nat} {F G : Nat → Nat}
def D77 (M : eM) (E : Nat → Nat → Nat) (F : Nat → Nat) (k c j : Nat) : Prop := ∀ k' c' j', k' < 3 → c' < 3 → j' < 21 → (k' < k ∨ (k' = k ∧ (c' < c ∨ (c' = c ∧ j' < j)))) → M.1 77 ((c' * 21 + j') * 3 + k') = nI (ptv E F k' c' j')
theorem px_s63 {E : Nat → Nat → Nat} (h : pok E F G) {k c : Nat} (hk : k < 3) (hc : c < 3) (h73 : M.1 73 c = nI (F c)) {x2 : Int32} (k109 : Int32 → Int32 → Int32 → eM → Option eM) : ∀ (d f j : Nat) (M1 : eM), 21 - j = d → j ≤ 21 → d < f → D77 M1 E F k c j → (∀ c k, c ≠ 77 → M1.1 c k = M.1 c k) → M1.2.2 = M.2.2 → ∃ M', fX6_sense_63 k109 cc f x2 (nI k) (nI c) (nI (E k c)) (nI j) M1 = k109 x2 (nI k) (nI c) M' ∧ D77 M' E F k c 21 ∧ (∀ c k, c ≠ 77 → M'.1 c k = M.1 c k) ∧ M'.2.2 = M.2.2 := by
  intro d
  induction d with
  | zero =>
    intro f j M1 hd hj hf hD hF hR
    obtain ⟨f, rfl⟩ : ∃ f', f = f' + 1 := ⟨f - 1, by omega⟩
    obtain rfl : j = 21 := by omega
    refine ⟨M1, ?_, hD, hF, hR⟩
    simp (disch := omega) only [ev_ck, ev_ci, ev_cv, ev_lt_, ↓reduceIte, ev_lens, ev_ix, ev_nz, ev_cl, ev_cll, ev_add, ev_addl, ev_ladd, ev_mul, ev_mull, ev_lmul, ev_sub, ev_subl, ev_lsub, ev_lt, ev_ltl, ev_llt, ev_le, ev_lel, ev_lle, ev_eq, ev_eql, ev_leq, ev_nm1, ev_nm5, ev_m1n, ev_neg1, ev_ltT, ev_ltF, ev_leT, ev_leF, ev_eqT, ev_eqF, ev_one0, ev_zero1, Nat.reduceAdd, Nat.reduceMul, Nat.reduceSub, ea_pI_eq, ev_pIn, ev_pIe, ea_pI_r, eq_self, fX6_sense_63]
  | succ d ih =>
    intro f j M1 hd hj hf hD hF hR
    obtain ⟨f, rfl⟩ : ∃ f', f = f' + 1 := ⟨f - 1, by omega⟩
    have e73 : M1.1 73 c = nI (F c) := by rw [hF _ _ (by omega)]; exact h73
    have b1 := ptv_le h hk hc (show j ≤ 20 by omega)
    have b2 := h.1 k c hk hc
    obtain ⟨M2, r1, r2⟩ := ih f (j + 1) (ea_pI M1 77 ((c * 21 + j) * 3 + k) (nI (ptv E F k c j))) (by omega) (by omega) (by omega) (fun k' c' j' a1 a2 a3 a4 => by
      by_cases ee : k' = k ∧ c' = c ∧ j' = j
      · obtain ⟨rfl, rfl, rfl⟩ := ee
        rw [ea_pI_eq]
      · rw [ea_pI_ne (by omega)]
        exact hD k' c' j' a1 a2 a3 (by omega)) (fun c k hc => by rw [ea_pI_ne (by omega)]; exact hF c k hc) hR
    refine ⟨M2, ?_, r2⟩
    have ep : nI (E k c) * (nI (F c * j * 10) / (100 : Int32)) = nI (ptv E F k c j) := by
      rw [show (100 : Int32) = nI 100 from rfl, ev_div (by omega) (by omega) (by omega), ev_mul]
      rfl
    simp (disch := omega) only [ev_ck, ev_ci, ev_cv, ev_lt_, ↓reduceIte, ev_lens, ev_ix, ev_nz, ev_cl, ev_cll, ev_add, ev_addl, ev_ladd, ev_mul, ev_mull, ev_lmul, ev_sub, ev_subl, ev_lsub, ev_lt, ev_ltl, ev_llt, ev_le, ev_lel, ev_lle, ev_eq, ev_eql, ev_leq, ev_nm1, ev_nm5, ev_m1n, ev_neg1, ev_ltT, ev_ltF, ev_leT, ev_leF, ev_eqT, ev_eqF, ev_one0, ev_zero1, Nat.reduceAdd, Nat.reduceMul, Nat.reduceSub, ea_pI_eq, ev_pIn, ev_pIe, ea_pI_r, eq_self, fX6_sense_63, fX6_placeOf, fX6_placeOf_0, e73, ep]
    exact r1
theorem px_sense (hC : Ctx M cc n v th o w q l t r) (he : e < n 6) (h : pok (eyE v e) F G) (h73 : ∀ c, c < 3 → M.1 73 c = nI (F c)) (h74 : ∀ c, c < 3 → M.1 74 c = nI (G c)) : ∃ M', fX6_sense cc (nI e) M = some M' ∧ S77 M' (eyE v e) F G ∧ (∀ c k, c ≠ 76 → c ≠ 77 → M'.1 c k = M.1 c k) ∧ M'.2.2 = M.2.2 := by
  have hcc := hC.1.1
  have hcc' : cc = 10 ∨ cc = 20 := hcc
  have hX := hC.1.2.2.2.2.1
  have h6 := hC.1.2.2.2.1.2.2.2.2.2.2.1
  have l9 := pn_l9 hcc
  have mid : ∀ (k115 : Int32 → Int32 → eM → Option eM) (k : Nat), k < 3 → ∀ (d f c : Nat) (M1 : eM), 3 - c = d → c ≤ 3 → d < f → D77 M1 (eyE v e) F k c 0 → (∀ k', k' < k → M1.1 76 k' = nI (wtv (eyE v e) G k' 3)) → M1.1 76 k = nI (wtv (eyE v e) G k c) → (∀ c k, c ≠ 76 → c ≠ 77 → M1.1 c k = M.1 c k) → M1.2.2 = M.2.2 → ∃ M', fX6_sense_17 k115 cc f (nI e) (nI k) (nI c) M1 = k115 (nI e) (nI k) M' ∧ D77 M' (eyE v e) F k 3 0 ∧ (∀ k', k' < k + 1 → M'.1 76 k' = nI (wtv (eyE v e) G k' 3)) ∧ (∀ c k, c ≠ 76 → c ≠ 77 → M'.1 c k = M.1 c k) ∧ M'.2.2 = M.2.2 := by
    intro k115 k hk d
    induction d with
    | zero =>
      intro f c M1 hd hc hf hD hW hw hF hR
      obtain ⟨f, rfl⟩ : ∃ f', f = f' + 1 := ⟨f - 1, by omega⟩
      obtain rfl : c = 3 := by omega
      refine ⟨M1, ?_, hD, fun k' hk' => ?_, hF, hR⟩
      · simp (disch := omega) only [ev_ck, ev_ci, ev_cv, ev_lt_, ↓reduceIte, ev_lens, ev_ix, ev_nz, ev_cl, ev_cll, ev_add, ev_addl, ev_ladd, ev_mul, ev_mull, ev_lmul, ev_sub, ev_subl, ev_lsub, ev_lt, ev_ltl, ev_llt, ev_le, ev_lel, ev_lle, ev_eq, ev_eql, ev_leq, ev_nm1, ev_nm5, ev_m1n, ev_neg1, ev_ltT, ev_ltF, ev_leT, ev_leF, ev_eqT, ev_eqF, ev_one0, ev_zero1, Nat.reduceAdd, Nat.reduceMul, Nat.reduceSub, ea_pI_eq, ev_pIn, ev_pIe, ea_pI_r, eq_self, fX6_sense_17]
      · by_cases ek : k' = k
        · rw [ek]; exact hw
        · exact hW k' (by omega)
    | succ d ih =>
      intro f c M1 hd hc hf hD hW hw hF hR
      obtain ⟨f, rfl⟩ : ∃ f', f = f' + 1 := ⟨f - 1, by omega⟩
      have eE : M1.1 (cc + 9) (e * 9 + k * 3 + c) = nI (eyE v e k c) := by rw [hF _ _ (by omega) (by omega)]; exact hX.2.2.2.2.2.2 _ (by omega)
      have e74 : M1.1 74 c = nI (G c) := by rw [hF _ _ (by omega) (by omega)]; exact h74 c (by omega)
      obtain ⟨M2, t1, t2, t3, t4⟩ := px_s63 (cc := cc) h hk (show c < 3 by omega) (M := ea_pI M1 76 k (nI (wtv (eyE v e) G k c + eyE v e k c * G c))) (by rw [ea_pI_ne (by omega), hF _ _ (by omega) (by omega)]; exact h73 c (by omega)) (x2 := nI e) (fX6_sense_109 (fX6_sense_17 k115 cc f) cc) 21 ea_N 0 (ea_pI M1 76 k (nI (wtv (eyE v e) G k c + eyE v e k c * G c))) (by omega) (by omega) (by unfold ea_N; omega) (fun k' c' j' a1 a2 a3 a4 => by rw [ea_pI_ne (by omega)]; exact hD k' c' j' a1 a2 a3 (by omega)) (fun _ _ _ => rfl) rfl
      obtain ⟨M3, r1, r2⟩ := ih f (c + 1) M2 (by omega) (by omega) (by omega) (fun k' c' j' a1 a2 a3 a4 => t2 k' c' j' a1 a2 a3 (by omega)) (fun k' hk' => by rw [t3 _ _ (by omega), ea_pI_ne (by omega)]; exact hW k' hk') (by rw [t3 _ _ (by omega), ea_pI_eq]; rfl) (fun c k h1 h2 => by rw [t3 _ _ h2, ea_pI_ne (by omega)]; exact hF c k h1 h2) (t4.trans hR)
      refine ⟨M3, ?_, r2⟩
      simp (disch := omega) only [ev_ck, ev_ci, ev_cv, ev_lt_, ↓reduceIte, ev_lens, ev_ix, ev_nz, ev_cl, ev_cll, ev_add, ev_addl, ev_ladd, ev_mul, ev_mull, ev_lmul, ev_sub, ev_subl, ev_lsub, ev_lt, ev_ltl, ev_llt, ev_le, ev_lel, ev_lle, ev_eq, ev_eql, ev_leq, ev_nm1, ev_nm5, ev_m1n, ev_neg1, ev_ltT, ev_ltF, ev_leT, ev_leF, ev_eqT, ev_eqF, ev_one0, ev_zero1, Nat.reduceAdd, Nat.reduceMul, Nat.reduceSub, ea_pI_eq, ev_pIn, ev_pIe, ea_pI_r, eq_self, fX6_sense_17, l9, eE, hw, e74]
      refine (show fX6_sense_63 _ cc ea_N (nI e) (nI k) (nI c) (nI (eyE v e k c)) 0 _ = _ from t1).trans ?_
      simp (disch := omega) only [ev_ck, ev_ci, ev_cv, ev_lt_, ↓reduceIte, ev_lens, ev_ix, ev_nz, ev_cl, ev_cll, ev_add, ev_addl, ev_ladd, ev_mul, ev_mull, ev_lmul, ev_sub, ev_subl, ev_lsub, ev_lt, ev_ltl, ev_llt, ev_le, ev_lel, ev_lle, ev_eq, ev_eql, ev_leq, ev_nm1, ev_nm5, ev_m1n, ev_neg1, ev_ltT, ev_ltF, ev_leT, ev_leF, ev_eqT, ev_eqF, ev_one0, ev_zero1, Nat.reduceAdd, Nat.reduceMul, Nat.reduceSub, ea_pI_eq, ev_pIn, ev_pIe, ea_pI_r, eq_self, fX6_sense_109]
      exact r1
  have out : ∀ (d f k : Nat) (M1 : eM), 3 - k = d → k ≤ 3 → d < f → D77 M1 (eyE v e) F k 0 0 → (∀ k', k' < k → M1.1 76 k' = nI (wtv (eyE v e) G k' 3)) → (∀ c k, c ≠ 76 → c ≠ 77 → M1.1 c k = M.1 c k) → M1.2.2 = M.2.2 → ∃ M', fX6_sense_2 cc f (nI e) (nI k) M1 = some M' ∧ S77 M' (eyE v e) F G ∧ (∀ c k, c ≠ 76 → c ≠ 77 → M'.1 c k = M.1 c k) ∧ M'.2.2 = M.2.2 := by
    intro d
    induction d with
    | zero =>
      intro f k M1 hd hk hf hD hW hF hR
      obtain ⟨f, rfl⟩ : ∃ f', f = f' + 1 := ⟨f - 1, by omega⟩
      obtain rfl : k = 3 := by omega
      refine ⟨M1, ?_, ⟨hW, fun k' c' j' a1 a2 a3 => hD k' c' j' a1 a2 a3 (by omega)⟩, hF, hR⟩
      simp (disch := omega) only [ev_ck, ev_ci, ev_cv, ev_lt_, ↓reduceIte, ev_lens, ev_ix, ev_nz, ev_cl, ev_cll, ev_add, ev_addl, ev_ladd, ev_mul, ev_mull, ev_lmul, ev_sub, ev_subl, ev_lsub, ev_lt, ev_ltl, ev_llt, ev_le, ev_lel, ev_lle, ev_eq, ev_eql, ev_leq, ev_nm1, ev_nm5, ev_m1n, ev_neg1, ev_ltT, ev_ltF, ev_leT, ev_leF, ev_eqT, ev_eqF, ev_one0, ev_zero1, Nat.reduceAdd, Nat.reduceMul, Nat.reduceSub, ea_pI_eq, ev_pIn, ev_pIe, ea_pI_r, eq_self, fX6_sense_2]
    | succ d ih =>
      intro f k M1 hd hk hf hD hW hF hR
      obtain ⟨f, rfl⟩ : ∃ f', f = f' + 1 := ⟨f - 1, by omega⟩
      obtain ⟨M2, t1, t2, t3, t4, t5⟩ := mid (fX6_sense_115 (fX6_sense_2 cc f) cc) k (by omega) 3 ea_N 0 (ea_pI M1 76 k 0) (by omega) (by omega) (by unfold ea_N; omega) (fun k' c' j' a1 a2 a3 a4 => by rw [ea_pI_ne (by omega)]; exact hD k' c' j' a1 a2 a3 (by omega)) (fun k' hk' => by rw [ea_pI_ne (by omega)]; exact hW k' hk') (by rw [ea_pI_eq]; rfl) (fun c k h1 h2 => by rw [ea_pI_ne (by omega)]; exact hF c k h1 h2) hR
      obtain ⟨M3, r1, r2⟩ := ih f (k + 1) M2 (by omega) (by omega) (by omega) (fun k' c' j' a1 a2 a3 a4 => t2 k' c' j' a1 a2 a3 (by omega)) t3 t4 t5
      refine ⟨M3, ?_, r2⟩
      simp (disch := omega) only [ev_ck, ev_ci, ev_cv, ev_lt_, ↓reduceIte, ev_lens, ev_ix, ev_nz, ev_cl, ev_cll, ev_add, ev_addl, ev_ladd, ev_mul, ev_mull, ev_lmul, ev_sub, ev_subl, ev_lsub, ev_lt, ev_ltl, ev_llt, ev_le, ev_lel, ev_lle, ev_eq, ev_eql, ev_leq, ev_nm1, ev_nm5, ev_m1n, ev_neg1, ev_ltT, ev_ltF, ev_leT, ev_leF, ev_eqT, ev_eqF, ev_one0, ev_zero1, Nat.reduceAdd, Nat.reduceMul, Nat.reduceSub, ea_pI_eq, ev_pIn, ev_pIe, ea_pI_r, eq_self, fX6_sense_2]
      refine (show fX6_sense_17 _ cc ea_N (nI e) (nI k) 0 _ = _ from t1).trans ?_
      simp (disch := omega) only [ev_ck, ev_ci, ev_cv, ev_lt_, ↓reduceIte, ev_lens, ev_ix, ev_nz, ev_cl, ev_cll, ev_add, ev_addl, ev_ladd, ev_mul, ev_mull, ev_lmul, ev_sub, ev_subl, ev_lsub, ev_lt, ev_ltl, ev_llt, ev_le, ev_lel, ev_lle, ev_eq, ev_eql, ev_leq, ev_nm1, ev_nm5, ev_m1n, ev_neg1, ev_ltT, ev_ltF, ev_leT, ev_leF, ev_eqT, ev_eqF, ev_one0, ev_zero1, Nat.reduceAdd, Nat.reduceMul, Nat.reduceSub, ea_pI_eq, ev_pIn, ev_pIe, ea_pI_r, eq_self, fX6_sense_115]
      exact r1
  exact out 3 ea_N 0 M (by omega) (by omega) (by unfold ea_N; omega) (fun k' c' j' a1 a2 a3 a4 => by omega) (fun k' hk' => by omega) (fun _ _ _ _ => rfl) rfl
theorem px_search (hC : Ctx M cc n v th o w q l t r) (he : e < n 6) (h : pok (eyE v e) F G) (h73 : ∀ c, c < 3 → M.1 73 c = nI (F c)) (h74 : ∀ c, c < 3 → M.1 74 c = nI (G c)) : ∃ M', fX6_search cc (nI e) M = some M' ∧ S72 M' (fda (eyE v e) F G (v 0 1 / 10) (v 0 2 / 10) (v 0 0 / 10 + 1)) ∧ (∀ c k, c ≠ 72 → c ≠ 75 → c ≠ 76 → c ≠ 77 → M'.1 c k = M.1 c k) ∧ M'.2.2 = M.2.2 := by
  have hcc := hC.1.1
  have hcc' : cc = 10 ∨ cc = 20 := hcc
  have hX := hC.1.2.2.2.2.1
  have hv := hC.1.2.2.2.1.2.2.2.2.2.2.2.2.2.1
  have l1 := pn_l1 hcc
  obtain ⟨M1, e1, s1, f1, r1⟩ := px_sense hC he h h73 h74
  have v0 : M1.1 (cc + 1) 0 = nI (v 0 0) := by rw [f1 _ _ (by omega) (by omega)]; exact hX.2.1 0 (by decide)
  have v1 : M1.1 (cc + 1) 1 = nI (v 0 1) := by rw [f1 _ _ (by omega) (by omega)]; exact hX.2.1 1 (by decide)
  have v2 : M1.1 (cc + 1) 2 = nI (v 0 2) := by rw [f1 _ _ (by omega) (by omega)]; exact hX.2.1 2 (by decide)
  have b0 := hv 0 (by decide)
  have b1 := hv 1 (by decide)
  have b2 := hv 2 (by decide)
  have fp : FrP M1 (ea_pI (ea_pI M1 72 3 (1000000 : Int32)) 72 6 (1000000 : Int32)) := ⟨fun c k p q => by simp (disch := omega) only [ev_ck, ev_ci, ev_cv, ev_lt_, ↓reduceIte, ev_lens, ev_ix, ev_nz, ev_cl, ev_cll, ev_add, ev_addl, ev_ladd, ev_mul, ev_mull, ev_lmul, ev_sub, ev_subl, ev_lsub, ev_lt, ev_ltl, ev_llt, ev_le, ev_lel, ev_lle, ev_eq, ev_eql, ev_leq, ev_nm1, ev_nm5, ev_m1n, ev_neg1, ev_ltT, ev_ltF, ev_leT, ev_leF, ev_eqT, ev_eqF, ev_one0, ev_zero1, Nat.reduceAdd, Nat.reduceMul, Nat.reduceSub, ea_pI_eq, ev_pIn, ev_pIe, ea_pI_r, eq_self], rfl⟩
  obtain ⟨M2, t1, t2, t3⟩ := px_srch h (cc := cc) (A := v 0 0 / 10) (B := v 0 1 / 10) (C := v 0 2 / 10) (by omega) (by omega) (by omega) (M := M1) (v 0 0 / 10 + 1) ea_N 0 (ea_pI (ea_pI M1 72 3 (1000000 : Int32)) 72 6 (1000000 : Int32)) (by omega) (by omega) (by unfold ea_N; omega) (s1.fr fp) ⟨by simp (disch := omega) only [ev_ck, ev_ci, ev_cv, ev_lt_, ↓reduceIte, ev_lens, ev_ix, ev_nz, ev_cl, ev_cll, ev_add, ev_addl, ev_ladd, ev_mul, ev_mull, ev_lmul, ev_sub, ev_subl, ev_lsub, ev_lt, ev_ltl, ev_llt, ev_le, ev_lel, ev_lle, ev_eq, ev_eql, ev_leq, ev_nm1, ev_nm5, ev_m1n, ev_neg1, ev_ltT, ev_ltF, ev_leT, ev_leF, ev_eqT, ev_eqF, ev_one0, ev_zero1, Nat.reduceAdd, Nat.reduceMul, Nat.reduceSub, ea_pI_eq, ev_pIn, ev_pIe, ea_pI_r, eq_self]; rfl, by simp (disch := omega) only [ev_ck, ev_ci, ev_cv, ev_lt_, ↓reduceIte, ev_lens, ev_ix, ev_nz, ev_cl, ev_cll, ev_add, ev_addl, ev_ladd, ev_mul, ev_mull, ev_lmul, ev_sub, ev_subl, ev_lsub, ev_lt, ev_ltl, ev_llt, ev_le, ev_lel, ev_lle, ev_eq, ev_eql, ev_leq, ev_nm1, ev_nm5, ev_m1n, ev_neg1, ev_ltT, ev_ltF, ev_leT, ev_leF, ev_eqT, ev_eqF, ev_one0, ev_zero1, Nat.reduceAdd, Nat.reduceMul, Nat.reduceSub, ea_pI_eq, ev_pIn, ev_pIe, ea_pI_r, eq_self]; rfl, trivial⟩ fp
  refine ⟨M2, ?_, t2, fun c k p1 p2 p3 p4 => by rw [t3.1 c k p2 (Or.inl p1)]; exact f1 c k p3 p4, t3.2.trans r1⟩
  unfold fX6_search fX6_search_0
  simp (disch := omega) only [ev_ck, ev_ci, ev_cv, ev_lt_, ↓reduceIte, ev_lens, ev_ix, ev_nz, ev_cl, ev_cll, ev_add, ev_addl, ev_ladd, ev_mul, ev_mull, ev_lmul, ev_sub, ev_subl, ev_lsub, ev_lt, ev_ltl, ev_llt, ev_le, ev_lel, ev_lle, ev_eq, ev_eql, ev_leq, ev_nm1, ev_nm5, ev_m1n, ev_neg1, ev_ltT, ev_ltF, ev_leT, ev_leF, ev_eqT, ev_eqF, ev_one0, ev_zero1, Nat.reduceAdd, Nat.reduceMul, Nat.reduceSub, ea_pI_eq, ev_pIn, ev_pIe, ea_pI_r, eq_self, e1, l1, v0, v1, v2, ev_divl]
  exact t1
theorem px_throw (hC : Ctx M cc n v th o w q l t r) {cell i s bd : Nat} (hcell : cell < 48) (hi : i < q 0) (hg : l i 6 ≠ 1) (he : e < n 6) (hs : s < n 5) (hb : bd ≤ 99) : ∃ M', fX10_throwLight (nI cell) (nI i) (nI e) (nI s) (nI bd) M = some M' ∧ S72 M' (fda (eyE v e) (fun c => l i (3 + c)) (fun c => grv (fun c x => sp_col v o w x 0 c) (LL n v th o w q l t r s 999 cell) bd c) (v 0 1 / 10) (v 0 2 / 10) (v 0 0 / 10 + 1)) ∧ Kp M M' := by
  have hcc := hC.1.1
  have ho := hC.1.2.2.2.1
  have h7 := ho.2.2.2.2.2.2.2.1
  have hok := hC.2.1.1
  obtain ⟨M1, e1, f1, r1⟩ := px_find (a := 50) (known := 999) (Or.inl rfl) hC hcell (by decide) hs
  have e1 : fX3_find 50 (nI cell) (nI s) 999 M = some M1 := e1
  have hC1 := hC.kp (r1.kp (Or.inl rfl))
  have hll := LL_len hC (s := s) (kn := 999) (cell := cell)
  obtain ⟨M2, e2, s2, f2, r2⟩ := px_span (Or.inl rfl) hC1 (show n 7 + 1 ≤ 4 by omega) (fun x p hp => gk_f (q := q) (l := l) (t := t) (r := r) (kn := 999) (cell := cell) hp) f1
  have hC2 := hC1.kp (r2.kp (Or.inl rfl))
  have gv : ∀ (f : Nat → Nat → Nat) (hf : ∀ c x, f c x ≤ 99) (L : List (Nat × Nat)) (bound c : Nat), grv f L bound c ≤ 99 := by
    intro f hf L bound c
    cases L with
    | nil => show 50 ≤ 99; decide
    | cons e R =>
      have b1 := mn_le (hf c) (e :: R)
      have b2 := mx_le (hf c) (e :: R)
      show (if _ then _ else _) ≤ 99
      by_cases hx : (tlk f (e :: R) bound 0 && (tlk f (e :: R) bound 1 && tlk f (e :: R) bound 2)) = true
      · rw [if_pos hx]; omega
      · rw [if_neg hx]; omega
  generalize hL : LL n v th o w q l t r s 999 cell = L at hll
  have s2 : SX M2 50 (fun c x => sp_col v o w x 0 c) L := by rw [← hL]; exact s2
  have f6 : M2.1 50 6 = nI L.length := by rw [← hL]; exact f2.2.1
  have hgv := gv (fun c x => sp_col v o w x 0 c) (fun c x => sp_col_le) L bd
  generalize hG : (fun c => grv (fun c x => sp_col v o w x 0 c) L bd c) = G
  have hGv : ∀ c, c < 3 → G c ≤ 99 := fun c _ => by rw [← hG]; exact hgv c
  have hp : pok (eyE v e) (fun c => l i (3 + c)) G := by
    refine ⟨fun k c hk hc => ?_, fun c hc => (hok.2.2.2.2.1 i hi).2.2.2.1 c hc, hGv⟩
    exact ho.2.2.2.2.2.2.2.2.2.2.2.2.2.2 _ (by omega)
  have lp : ∀ (d f c : Nat) (M3 : eM), 3 - c = d → c ≤ 3 → d < f → (∀ c', c' < c → M3.1 73 c' = nI (l i (3 + c')) ∧ M3.1 74 c' = nI (G c')) → (∀ c k, c ≠ 73 → c ≠ 74 → M3.1 c k = M2.1 c k) → M3.2.2 = M2.2.2 → ∃ M4, fX10_throwLight_23 fX10_throwLight_76 f (nI i) (nI e) (nI bd) (nI c) M3 = fX10_throwLight_76 (nI e) M4 ∧ (∀ c', c' < 3 → M4.1 73 c' = nI (l i (3 + c')) ∧ M4.1 74 c' = nI (G c')) ∧ (∀ c k, c ≠ 73 → c ≠ 74 → M4.1 c k = M2.1 c k) ∧ M4.2.2 = M2.2.2 := by
    intro d
    induction d with
    | zero =>
      intro f c M3 hd hc hf hI hF hR
      obtain ⟨f, rfl⟩ : ∃ f', f = f' + 1 := ⟨f - 1, by omega⟩
      obtain rfl : c = 3 := by omega
      refine ⟨M3, ?_, hI, hF, hR⟩
      simp (disch := omega) only [ev_ck, ev_ci, ev_cv, ev_lt_, ↓reduceIte, ev_lens, ev_ix, ev_nz, ev_cl, ev_cll, ev_add, ev_addl, ev_ladd, ev_mul, ev_mull, ev_lmul, ev_sub, ev_subl, ev_lsub, ev_lt, ev_ltl, ev_llt, ev_le, ev_lel, ev_lle, ev_eq, ev_eql, ev_leq, ev_nm1, ev_nm5, ev_m1n, ev_neg1, ev_ltT, ev_ltF, ev_leT, ev_leF, ev_eqT, ev_eqF, ev_one0, ev_zero1, Nat.reduceAdd, Nat.reduceMul, Nat.reduceSub, ea_pI_eq, ev_pIn, ev_pIe, ea_pI_r, eq_self, fX10_throwLight_23]
    | succ d ih =>
      intro f c M3 hd hc hf hI hF hR
      obtain ⟨f, rfl⟩ : ∃ f', f = f' + 1 := ⟨f - 1, by omega⟩
      have k3 : Kp M2 M3 := ⟨⟨fun c k hk => hF c k (by have := isInv_in hk; omega) (by have := isInv_in hk; omega), hR⟩, fun c k h1 h2 => hF c k (by omega) (by omega)⟩
      have hC3 := hC2.kp k3
      have lk : fX8_lookShade 30 (nI i) (nI c) M3 = some (nI (l i (3 + c)), M3) := by
        have := px_shadeL (Or.inl rfl) hok hC3.2.1.2.1 (z := some i) (fun j hj => by cases hj; exact hi) (show c < 3 by omega)
        have ee : sp_ls l (some i) c = nI (l i (3 + c)) := if_neg hg
        rw [← ee]
        exact this
      have gr := px_grey (M := ea_pI M3 73 c (nI (l i (3 + c)))) (a := 50) (Or.inl rfl) (f := fun c x => sp_col v o w x 0 c) (fun c x => sp_col_le) (L := L) (fun c' hc' => ⟨by rw [ea_pI_ne (by omega), hF _ _ (by omega) (by omega)]; exact (s2 c' hc').1, by rw [ea_pI_ne (by omega), hF _ _ (by omega) (by omega)]; exact (s2 c' hc').2⟩) (by rw [ea_pI_ne (by omega), hF _ _ (by omega) (by omega)]; exact f6) hll (bound := bd) (c := c) hb (by omega)
      have eG : grv (fun c x => sp_col v o w x 0 c) L bd c = G c := by rw [← hG]
      rw [eG] at gr
      obtain ⟨M4, q1, q2⟩ := ih f (c + 1) (ea_pI (ea_pI M3 73 c (nI (l i (3 + c)))) 74 c (nI (G c))) (by omega) (by omega) (by omega) (fun c' hc' => by
        by_cases ec : c' = c
        · rw [ec]
          exact ⟨by simp (disch := omega) only [ev_ck, ev_ci, ev_cv, ev_lt_, ↓reduceIte, ev_lens, ev_ix, ev_nz, ev_cl, ev_cll, ev_add, ev_addl, ev_ladd, ev_mul, ev_mull, ev_lmul, ev_sub, ev_subl, ev_lsub, ev_lt, ev_ltl, ev_llt, ev_le, ev_lel, ev_lle, ev_eq, ev_eql, ev_leq, ev_nm1, ev_nm5, ev_m1n, ev_neg1, ev_ltT, ev_ltF, ev_leT, ev_leF, ev_eqT, ev_eqF, ev_one0, ev_zero1, Nat.reduceAdd, Nat.reduceMul, Nat.reduceSub, ea_pI_eq, ev_pIn, ev_pIe, ea_pI_r, eq_self], by simp (disch := omega) only [ev_ck, ev_ci, ev_cv, ev_lt_, ↓reduceIte, ev_lens, ev_ix, ev_nz, ev_cl, ev_cll, ev_add, ev_addl, ev_ladd, ev_mul, ev_mull, ev_lmul, ev_sub, ev_subl, ev_lsub, ev_lt, ev_ltl, ev_llt, ev_le, ev_lel, ev_lle, ev_eq, ev_eql, ev_leq, ev_nm1, ev_nm5, ev_m1n, ev_neg1, ev_ltT, ev_ltF, ev_leT, ev_leF, ev_eqT, ev_eqF, ev_one0, ev_zero1, Nat.reduceAdd, Nat.reduceMul, Nat.reduceSub, ea_pI_eq, ev_pIn, ev_pIe, ea_pI_r, eq_self]⟩
        · have := hI c' (by omega)
          exact ⟨by simp (disch := omega) only [ev_ck, ev_ci, ev_cv, ev_lt_, ↓reduceIte, ev_lens, ev_ix, ev_nz, ev_cl, ev_cll, ev_add, ev_addl, ev_ladd, ev_mul, ev_mull, ev_lmul, ev_sub, ev_subl, ev_lsub, ev_lt, ev_ltl, ev_llt, ev_le, ev_lel, ev_lle, ev_eq, ev_eql, ev_leq, ev_nm1, ev_nm5, ev_m1n, ev_neg1, ev_ltT, ev_ltF, ev_leT, ev_leF, ev_eqT, ev_eqF, ev_one0, ev_zero1, Nat.reduceAdd, Nat.reduceMul, Nat.reduceSub, ea_pI_eq, ev_pIn, ev_pIe, ea_pI_r, eq_self]; exact this.1, by simp (disch := omega) only [ev_ck, ev_ci, ev_cv, ev_lt_, ↓reduceIte, ev_lens, ev_ix, ev_nz, ev_cl, ev_cll, ev_add, ev_addl, ev_ladd, ev_mul, ev_mull, ev_lmul, ev_sub, ev_subl, ev_lsub, ev_lt, ev_ltl, ev_llt, ev_le, ev_lel, ev_lle, ev_eq, ev_eql, ev_leq, ev_nm1, ev_nm5, ev_m1n, ev_neg1, ev_ltT, ev_ltF, ev_leT, ev_leF, ev_eqT, ev_eqF, ev_one0, ev_zero1, Nat.reduceAdd, Nat.reduceMul, Nat.reduceSub, ea_pI_eq, ev_pIn, ev_pIe, ea_pI_r, eq_self]; exact this.2⟩) (fun c' k h1 h2 => by simp (disch := omega) only [ev_ck, ev_ci, ev_cv, ev_lt_, ↓reduceIte, ev_lens, ev_ix, ev_nz, ev_cl, ev_cll, ev_add, ev_addl, ev_ladd, ev_mul, ev_mull, ev_lmul, ev_sub, ev_subl, ev_lsub, ev_lt, ev_ltl, ev_llt, ev_le, ev_lel, ev_lle, ev_eq, ev_eql, ev_leq, ev_nm1, ev_nm5, ev_m1n, ev_neg1, ev_ltT, ev_ltF, ev_leT, ev_leF, ev_eqT, ev_eqF, ev_one0, ev_zero1, Nat.reduceAdd, Nat.reduceMul, Nat.reduceSub, ea_pI_eq, ev_pIn, ev_pIe, ea_pI_r, eq_self]; exact hF c' k h1 h2) hR
      refine ⟨M4, ?_, q2⟩
      simp (disch := omega) only [ev_ck, ev_ci, ev_cv, ev_lt_, ↓reduceIte, ev_lens, ev_ix, ev_nz, ev_cl, ev_cll, ev_add, ev_addl, ev_ladd, ev_mul, ev_mull, ev_lmul, ev_sub, ev_subl, ev_lsub, ev_lt, ev_ltl, ev_llt, ev_le, ev_lel, ev_lle, ev_eq, ev_eql, ev_leq, ev_nm1, ev_nm5, ev_m1n, ev_neg1, ev_ltT, ev_ltF, ev_leT, ev_leF, ev_eqT, ev_eqF, ev_one0, ev_zero1, Nat.reduceAdd, Nat.reduceMul, Nat.reduceSub, ea_pI_eq, ev_pIn, ev_pIe, ea_pI_r, eq_self, fX10_throwLight_23, lk, gr]
      exact q1
  obtain ⟨M4, q1, q2, q3, q4⟩ := lp 3 ea_N 0 M2 (by omega) (by omega) (by unfold ea_N; omega) (fun c' hc' => by omega) (fun _ _ _ _ => rfl) rfl
  have k4 : Kp M2 M4 := ⟨⟨fun c k hk => q3 c k (by have := isInv_in hk; omega) (by have := isInv_in hk; omega), q4⟩, fun c k h1 h2 => q3 c k (by omega) (by omega)⟩
  obtain ⟨M5, e5, s5, f5, r5⟩ := px_search (hC2.kp k4) he hp (fun c hc => (q2 c hc).1) (fun c hc => (q2 c hc).2)
  have k5 : Kp M4 M5 := ⟨⟨fun c k hk => f5 c k (by have := isInv_in hk; omega) (by have := isInv_in hk; omega) (by have := isInv_in hk; omega) (by have := isInv_in hk; omega), r5⟩, fun c k h1 h2 => f5 c k (by omega) (by omega) (by omega) (by omega)⟩
  refine ⟨M5, ?_, s5, (((r1.kp (Or.inl rfl)).trans (r2.kp (Or.inl rfl))).trans k4).trans k5⟩
  unfold fX10_throwLight fX10_throwLight_0
  rw [e1, ev_cv, e2, ev_cv]
  refine (show fX10_throwLight_23 _ ea_N (nI i) (nI e) (nI bd) 0 M2 = _ from q1).trans ?_
  unfold fX10_throwLight_76
  rw [(hC2.kp k4).1.2.1, ea_ck_t (pn_is hcc), e5, ev_cv]
end TH
