def e1v (st : Option (Nat × Nat × Nat × Nat)) : Int32 := match st with
  | none => 0
  | some (_, a, _, _) => nI (a * 10)
def e2v (st : Option (Nat × Nat × Nat × Nat)) : Int32 := match st with
  | none => 0
  | some (_, _, b, _) => nI (b * 10)
def e3v (st : Option (Nat × Nat × Nat × Nat)) : Int32 := match st with
  | none => 0
  | some (_, _, _, c) => nI (c * 10)
def e4v (st : Option (Nat × Nat × Nat × Nat)) : Int32 := match st with
  | none => -1
  | some (m, _, _, _) => nI m
/-- the model's rows for one EYE -/
def T128 (M : eM) (v : Nat → Nat → Nat) (n : Nat → Nat) (e fr : Nat) (F G : Nat → Nat) : Prop := (∀ k, k < 3 → M.1 128 k = nI (wtv (eyE v e) G k 3)) ∧ (∀ k c, k < 3 → c < 3 → M.1 109 (9 * e + 3 * k + c) = nI (eyE v e k c)) ∧ (∀ c, c < 3 → M.1 114 (fr + c) = nI (F c)) ∧ (∀ c, c < 3 → M.1 102 (8 + c) = nI (v 0 c))
theorem T128.fr {M M' : eM} {v : Nat → Nat → Nat} {n : Nat → Nat} {e f0 : Nat} {F G : Nat → Nat} (h : T128 M v n e f0 F G) (f : ∀ c k, c ≠ 129 → M'.1 c k = M.1 c k) : T128 M' v n e f0 F G := ⟨fun k hk => by rw [f _ _ (by omega)]; exact h.1 k hk, fun k c hk hc => by rw [f _ _ (by omega)]; exact h.2.1 k c hk hc, fun c hc => by rw [f _ _ (by omega)]; exact h.2.2.1 c hc, fun c hc => by rw [f _ _ (by omega)]; exact h.2.2.2 c hc⟩
section TM
variable {M : eM} {v : Nat → Nat → Nat} {n : Nat → Nat} {e f0 : Nat} {F G : Nat → Nat}
theorem py_see (h : pok (eyE v e) F G) (hT : T128 M v n e f0 F G) (he : e < 2) (hf : f0 + 2 < 3416) {a b c : Nat} (ha : a ≤ 20) (hb : b ≤ 20) (hc : c ≤ 20) (l0 : M.1 129 0 = nI (a * 10)) (l1 : M.1 129 1 = nI (b * 10)) (l2 : M.1 129 2 = nI (c * 10)) {k : Nat} (hk : k < 3) : fX11_seenBy (nI e) (nI k) (nI f0) M = some (nI (see (eyE v e) F a b c k), M) := by
  have st : ∀ (f x j z : Nat), j < 3 → M.1 129 j = nI (z * 10) → z ≤ 20 → x ≤ 5346 → fX11_seenBy_6 (f + 1) (nI e) (nI k) (nI f0) (nI x) (nI j) M = fX11_seenBy_6 f (nI e) (nI k) (nI f0) (nI (x + ptv (eyE v e) F k j z)) (nI (j + 1)) M := by
    intro f x j z hj hz hz2 hx
    have g1 := hT.2.1 k j hk hj
    have g2 := hT.2.2.1 j hj
    have b1 := ptv_le h hk hj hz2
    have em : F j * (z * 10) = F j * z * 10 := (Nat.mul_assoc _ _ _).symm
    rw [fX11_seenBy_6]
    simp (disch := omega) only [ev_ck, ev_ci, ev_cv, ev_lt_, ↓reduceIte, ev_lens, ev_ix, ev_nz, ev_cl, ev_cll, ev_add, ev_addl, ev_ladd, ev_mul, ev_mull, ev_lmul, ev_sub, ev_subl, ev_lsub, ev_lt, ev_ltl, ev_llt, ev_le, ev_lel, ev_lle, ev_eq, ev_eql, ev_leq, ev_nm1, ev_nm5, ev_m1n, ev_neg1, ev_ltT, ev_ltF, ev_leT, ev_leF, ev_eqT, ev_eqF, ev_one0, ev_zero1, Nat.reduceAdd, Nat.reduceMul, Nat.reduceSub, ea_pI_eq, ev_pIn, ev_pIe, ea_pI_r, eq_self, g1, g2, hz, em, ev_divl]
    rfl
  have q0 := (ptv_le h hk (c := 0) (by decide) ha).2
  have q1 := (ptv_le h hk (c := 1) (by decide) hb).2
  unfold fX11_seenBy fX11_seenBy_0
  show fX11_seenBy_6 (99996 + 1 + 1 + 1 + 1) (nI e) (nI k) (nI f0) (nI 0) (nI 0) M = _
  rw [st _ 0 0 a (by decide) l0 ha (by decide), st _ _ 1 b (by decide) l1 hb (by omega), st _ _ 2 c (by decide) l2 hc (by omega), fX11_seenBy_6, if_pos (by decide), Nat.zero_add]
  rfl
theorem py_step (h : pok (eyE v e) F G) (hT : T128 M v n e f0 F G) (he : e < 2) (hf : f0 + 2 < 3416) {a b c : Nat} (ha : a ≤ 20) (hb : b ≤ 20) (hc : c ≤ 20) (l0 : M.1 129 0 = nI (a * 10)) (l1 : M.1 129 1 = nI (b * 10)) (l2 : M.1 129 2 = nI (c * 10)) {st : Option (Nat × Nat × Nat × Nat)} (hso : sok st) (k149 : Int32 → Int32 → Int32 → Int32 → Int32 → Int32 → eM → Option eM) : fX11_throwLight_171 (fX11_throwLight_220 k149) ea_N (nI f0) (nI e) (e1v st) (e2v st) (e3v st) (e4v st) 0 0 M = k149 (nI f0) (nI e) (e1v (upg (eyE v e) F G a b c st)) (e2v (upg (eyE v e) F G a b c st)) (e3v (upg (eyE v e) F G a b c st)) (e4v (upg (eyE v e) F G a b c st)) (ea_pI M 129 2 (nI ((c + 1) * 10))) := by
  have stp : ∀ (f k x : Nat), k < 3 → x ≤ 5346 → fX11_throwLight_171 (fX11_throwLight_220 k149) (f + 1) (nI f0) (nI e) (e1v st) (e2v st) (e3v st) (e4v st) (nI x) (nI k) M = fX11_throwLight_171 (fX11_throwLight_220 k149) f (nI f0) (nI e) (e1v st) (e2v st) (e3v st) (e4v st) (nI (mx2 x (dif (see (eyE v e) F a b c k) (wtv (eyE v e) G k 3)))) (nI (k + 1)) M := by
    intro f k x hk hx
    have se := py_see h hT he hf ha hb hc l0 l1 l2 hk
    have w := hT.1 k hk
    have sl := see_le h hk ha hb hc
    have wl := wtv_le h hk 3 (by decide)
    have pl := py_plain (a := see (eyE v e) F a b c k) (b := wtv (eyE v e) G k 3) (by omega) (by omega) M
    have pl : fX11_plain (nI (see (eyE v e) F a b c k) - nI (wtv (eyE v e) G k 3)) M = some (nI (dif (see (eyE v e) F a b c k) (wtv (eyE v e) G k 3)), M) := pl
    have dl : dif (see (eyE v e) F a b c k) (wtv (eyE v e) G k 3) ≤ 5346 := dif_le sl (by omega)
    rw [fX11_throwLight_171]
    unfold mx2
    by_cases hq : dif (see (eyE v e) F a b c k) (wtv (eyE v e) G k 3) ≤ x
    · simp (disch := omega) only [ev_ck, ev_ci, ev_cv, ev_lt_, ↓reduceIte, ev_lens, ev_ix, ev_nz, ev_cl, ev_cll, ev_add, ev_addl, ev_ladd, ev_mul, ev_mull, ev_lmul, ev_subl, ev_lsub, ev_lt, ev_ltl, ev_llt, ev_le, ev_lel, ev_lle, ev_eq, ev_eql, ev_leq, ev_nm1, ev_nm5, ev_m1n, ev_neg1, ev_ltT, ev_ltF, ev_leT, ev_leF, ev_eqT, ev_eqF, ev_one0, ev_zero1, Nat.reduceAdd, Nat.reduceMul, Nat.reduceSub, ea_pI_eq, ev_pIn, ev_pIe, ea_pI_r, eq_self, se, w, pl, fX11_throwLight_212]
    · simp (disch := omega) only [ev_ck, ev_ci, ev_cv, ev_lt_, ↓reduceIte, ev_lens, ev_ix, ev_nz, ev_cl, ev_cll, ev_add, ev_addl, ev_ladd, ev_mul, ev_mull, ev_lmul, ev_subl, ev_lsub, ev_lt, ev_ltl, ev_llt, ev_le, ev_lel, ev_lle, ev_eq, ev_eql, ev_leq, ev_nm1, ev_nm5, ev_m1n, ev_neg1, ev_ltT, ev_ltF, ev_leT, ev_leF, ev_eqT, ev_eqF, ev_one0, ev_zero1, Nat.reduceAdd, Nat.reduceMul, Nat.reduceSub, ea_pI_eq, ev_pIn, ev_pIe, ea_pI_r, eq_self, se, w, pl, fX11_throwLight_212]
  have d0 : dif (see (eyE v e) F a b c 0) (wtv (eyE v e) G 0 3) ≤ 5346 := dif_le (see_le h (by decide) ha hb hc) (Nat.le_trans (wtv_le h (by decide) 3 (by decide)) (by decide))
  have d1 : dif (see (eyE v e) F a b c 1) (wtv (eyE v e) G 1 3) ≤ 5346 := dif_le (see_le h (by decide) ha hb hc) (Nat.le_trans (wtv_le h (by decide) 3 (by decide)) (by decide))
  have m0 : mx2 0 (dif (see (eyE v e) F a b c 0) (wtv (eyE v e) G 0 3)) ≤ 5346 := mx2_le (Nat.zero_le _) d0
  have m1 := mx2_le m0 d1
  have hm := mis_le h ha hb hc
  show fX11_throwLight_171 (fX11_throwLight_220 k149) (99996 + 1 + 1 + 1 + 1) (nI f0) (nI e) (e1v st) (e2v st) (e3v st) (e4v st) (nI 0) (nI 0) M = _
  rw [stp _ 0 0 (by decide) (by decide), stp _ 1 _ (by decide) m0, stp _ 2 _ (by decide) m1, fX11_throwLight_171, if_pos (by decide)]
  show fX11_throwLight_220 k149 (nI f0) (nI e) (e1v st) (e2v st) (e3v st) (e4v st) (nI (mis (eyE v e) F G a b c)) M = _
  have l2' : M.1 129 2 + 10 = nI ((c + 1) * 10) := by rw [l2, show (10 : Int32) = nI 10 from rfl, ev_add, Nat.succ_mul]
  have yes : fX11_throwLight_271 k149 (nI f0) (nI e) (e1v st) (e2v st) (e3v st) (e4v st) (nI (mis (eyE v e) F G a b c)) M = k149 (nI f0) (nI e) (nI (a * 10)) (nI (b * 10)) (nI (c * 10)) (nI (mis (eyE v e) F G a b c)) (ea_pI M 129 2 (nI ((c + 1) * 10))) := by
    unfold fX11_throwLight_271 fX11_throwLight_276 fX11_throwLight_314
    rw [if_neg (by decide), ev_lt_, ev_lt_, ev_lt_, show (0 : Int32).toNatClampNeg = 0 from rfl, show (1 : Int32).toNatClampNeg = 1 from rfl, show (2 : Int32).toNatClampNeg = 2 from rfl, l0, l1, l2', l2]
  have no : fX11_throwLight_275 k149 (nI f0) (nI e) (e1v st) (e2v st) (e3v st) (e4v st) (nI (mis (eyE v e) F G a b c)) M = k149 (nI f0) (nI e) (e1v st) (e2v st) (e3v st) (e4v st) (ea_pI M 129 2 (nI ((c + 1) * 10))) := by
    unfold fX11_throwLight_275 fX11_throwLight_276 fX11_throwLight_314
    rw [if_pos rfl, show (2 : Int32).toNatClampNeg = 2 from rfl, l2']
  unfold fX11_throwLight_220
  rw [yes, no, show (0 : Int32).toNatClampNeg = 0 from rfl, show (1 : Int32).toNatClampNeg = 1 from rfl, show (2 : Int32).toNatClampNeg = 2 from rfl, l0, l1, l2]
  match st with
  | none => exact if_pos rfl
  | some (m, a', b', c') =>
    have hso : m ≤ 5346 ∧ a' ≤ 20 ∧ b' ≤ 20 ∧ c' ≤ 20 := hso
    show (if nI m = -1 then _ else if nI (mis (eyE v e) F G a b c) < nI m then _ else if nI (mis (eyE v e) F G a b c) = nI m then if nI (a' * 10) + nI (b' * 10) + nI (c' * 10) ≤ nI (a * 10) + nI (b * 10) + nI (c * 10) then _ else _ else _) = _
    rw [if_neg (ev_neg (by omega) (by decide)), ev_add, ev_add, ev_add, ev_add]
    have w1 := pn_ltI (show mis (eyE v e) F G a b c < 2 ^ 31 by omega) (show m < 2 ^ 31 by omega)
    have w2 := pn_eqI (show mis (eyE v e) F G a b c < 2 ^ 31 by omega) (show m < 2 ^ 31 by omega)
    have w3 := pn_leI (show a' * 10 + b' * 10 + c' * 10 < 2 ^ 31 by omega) (show a * 10 + b * 10 + c * 10 < 2 ^ 31 by omega)
    have eu : upg (eyE v e) F G a b c (some (m, a', b', c')) = if mis (eyE v e) F G a b c < m ∨ (mis (eyE v e) F G a b c = m ∧ a + b + c < a' + b' + c') then some (mis (eyE v e) F G a b c, a, b, c) else some (m, a', b', c') := rfl
    by_cases q1 : mis (eyE v e) F G a b c < m
    · rw [if_pos (w1.mpr q1), eu, if_pos (Or.inl q1)]
      rfl
    · rw [if_neg (fun z => q1 (w1.mp z))]
      by_cases q2 : mis (eyE v e) F G a b c = m
      · rw [if_pos (w2.mpr q2)]
        by_cases q3 : a + b + c < a' + b' + c'
        · rw [if_neg (fun z => by have := w3.mp z; omega), eu, if_pos (Or.inr ⟨q2, q3⟩)]
          rfl
        · rw [if_pos (w3.mpr (by omega)), eu, if_neg (by omega)]
      · rw [if_neg (fun z => q2 (w2.mp z)), eu, if_neg (by omega)]
theorem py_srch (h : pok (eyE v e) F G) (he : e < 2) (hf : f0 + 2 < 3416) (hv : ∀ c, c < 3 → v 0 c ≤ 200) (hT : T128 M v n e f0 F G) : ∀ (d f a : Nat) (M1 : eM), v 0 0 / 10 + 1 - a = d → a ≤ v 0 0 / 10 + 1 → d < f → (∀ c k, c ≠ 129 → M1.1 c k = M.1 c k) → M1.2.2 = M.2.2 → M1.1 129 0 = nI (a * 10) → ∃ M', fX11_throwLight_103 fX11_throwLight_356 f (nI f0) (nI e) (e1v (fda (eyE v e) F G (v 0 1 / 10) (v 0 2 / 10) a)) (e2v (fda (eyE v e) F G (v 0 1 / 10) (v 0 2 / 10) a)) (e3v (fda (eyE v e) F G (v 0 1 / 10) (v 0 2 / 10) a)) (e4v (fda (eyE v e) F G (v 0 1 / 10) (v 0 2 / 10) a)) M1 = fX11_throwLight_356 (e1v (fda (eyE v e) F G (v 0 1 / 10) (v 0 2 / 10) (v 0 0 / 10 + 1))) (e2v (fda (eyE v e) F G (v 0 1 / 10) (v 0 2 / 10) (v 0 0 / 10 + 1))) (e3v (fda (eyE v e) F G (v 0 1 / 10) (v 0 2 / 10) (v 0 0 / 10 + 1))) (e4v (fda (eyE v e) F G (v 0 1 / 10) (v 0 2 / 10) (v 0 0 / 10 + 1))) M' ∧ (∀ c k, c ≠ 129 → M'.1 c k = M.1 c k) ∧ M'.2.2 = M.2.2 := by
  have v0 := hv 0 (by decide)
  have v1 := hv 1 (by decide)
  have v2 := hv 2 (by decide)
  have inn : ∀ (k328 : Int32 → Int32 → Int32 → Int32 → Int32 → Int32 → eM → Option eM) (a b : Nat) (st : Option (Nat × Nat × Nat × Nat)), a ≤ 20 → b ≤ 20 → sok st → ∀ (d f c : Nat) (M1 : eM), v 0 2 / 10 + 1 - c = d → c ≤ v 0 2 / 10 + 1 → d < f → (∀ c k, c ≠ 129 → M1.1 c k = M.1 c k) → M1.2.2 = M.2.2 → M1.1 129 0 = nI (a * 10) → M1.1 129 1 = nI (b * 10) → M1.1 129 2 = nI (c * 10) → ∃ M', fX11_throwLight_149 k328 f (nI f0) (nI e) (e1v (fdc (eyE v e) F G a b st c)) (e2v (fdc (eyE v e) F G a b st c)) (e3v (fdc (eyE v e) F G a b st c)) (e4v (fdc (eyE v e) F G a b st c)) M1 = k328 (nI f0) (nI e) (e1v (fdc (eyE v e) F G a b st (v 0 2 / 10 + 1))) (e2v (fdc (eyE v e) F G a b st (v 0 2 / 10 + 1))) (e3v (fdc (eyE v e) F G a b st (v 0 2 / 10 + 1))) (e4v (fdc (eyE v e) F G a b st (v 0 2 / 10 + 1))) M' ∧ (∀ c k, c ≠ 129 → M'.1 c k = M.1 c k) ∧ M'.2.2 = M.2.2 ∧ M'.1 129 0 = nI (a * 10) ∧ M'.1 129 1 = nI (b * 10) := by
    intro k328 a b st ha hb hst d
    induction d with
    | zero =>
      intro f c M1 hd hc hf' hF hR l0 l1 l2
      obtain ⟨f, rfl⟩ : ∃ f', f = f' + 1 := ⟨f - 1, by omega⟩
      obtain rfl : c = v 0 2 / 10 + 1 := by omega
      have e10 : M1.1 102 10 = nI (v 0 2) := by rw [hF _ _ (by omega)]; exact hT.2.2.2 2 (by decide)
      refine ⟨M1, ?_, hF, hR, l0, l1⟩
      simp (disch := omega) only [ev_ck, ev_ci, ev_cv, ev_lt_, ↓reduceIte, ev_lens, ev_ix, ev_nz, ev_cl, ev_cll, ev_add, ev_addl, ev_ladd, ev_mul, ev_mull, ev_lmul, ev_sub, ev_subl, ev_lsub, ev_lt, ev_ltl, ev_llt, ev_le, ev_lel, ev_lle, ev_eq, ev_eql, ev_leq, ev_nm1, ev_nm5, ev_m1n, ev_neg1, ev_ltT, ev_ltF, ev_leT, ev_leF, ev_eqT, ev_eqF, ev_one0, ev_zero1, Nat.reduceAdd, Nat.reduceMul, Nat.reduceSub, ea_pI_eq, ev_pIn, ev_pIe, ea_pI_r, eq_self, fX11_throwLight_149, e10, l2]
    | succ d ih =>
      intro f c M1 hd hc hf' hF hR l0 l1 l2
      obtain ⟨f, rfl⟩ : ∃ f', f = f' + 1 := ⟨f - 1, by omega⟩
      have e10 : M1.1 102 10 = nI (v 0 2) := by rw [hF _ _ (by omega)]; exact hT.2.2.2 2 (by decide)
      have sp := py_step h (hT.fr hF) he hf ha hb (show c ≤ 20 by omega) l0 l1 l2 (fdc_ok h ha hb hst c (by omega)) (fX11_throwLight_149 k328 f)
      obtain ⟨M2, r1, r2⟩ := ih f (c + 1) (ea_pI M1 129 2 (nI ((c + 1) * 10))) (by omega) (by omega) (by omega) (fun c k hc => by rw [ea_pI_ne (by omega)]; exact hF c k hc) hR (by rw [ea_pI_ne (by omega)]; exact l0) (by rw [ea_pI_ne (by omega)]; exact l1) (by rw [ea_pI_eq])
      refine ⟨M2, ?_, r2⟩
      simp (disch := omega) only [ev_ck, ev_ci, ev_cv, ev_lt_, ↓reduceIte, ev_lens, ev_ix, ev_nz, ev_cl, ev_cll, ev_add, ev_addl, ev_ladd, ev_mul, ev_mull, ev_lmul, ev_sub, ev_subl, ev_lsub, ev_lt, ev_ltl, ev_llt, ev_le, ev_lel, ev_lle, ev_eq, ev_eql, ev_leq, ev_nm1, ev_nm5, ev_m1n, ev_neg1, ev_ltT, ev_ltF, ev_leT, ev_leF, ev_eqT, ev_eqF, ev_one0, ev_zero1, Nat.reduceAdd, Nat.reduceMul, Nat.reduceSub, ea_pI_eq, ev_pIn, ev_pIe, ea_pI_r, eq_self, fX11_throwLight_149, e10, l2]
      exact sp.trans r1
  have mid : ∀ (k342 : Int32 → Int32 → Int32 → Int32 → Int32 → Int32 → eM → Option eM) (a : Nat) (st : Option (Nat × Nat × Nat × Nat)), a ≤ 20 → sok st → ∀ (d f b : Nat) (M1 : eM), v 0 1 / 10 + 1 - b = d → b ≤ v 0 1 / 10 + 1 → d < f → (∀ c k, c ≠ 129 → M1.1 c k = M.1 c k) → M1.2.2 = M.2.2 → M1.1 129 0 = nI (a * 10) → M1.1 129 1 = nI (b * 10) → ∃ M', fX11_throwLight_126 k342 f (nI f0) (nI e) (e1v (fdb (eyE v e) F G (v 0 2 / 10) a st b)) (e2v (fdb (eyE v e) F G (v 0 2 / 10) a st b)) (e3v (fdb (eyE v e) F G (v 0 2 / 10) a st b)) (e4v (fdb (eyE v e) F G (v 0 2 / 10) a st b)) M1 = k342 (nI f0) (nI e) (e1v (fdb (eyE v e) F G (v 0 2 / 10) a st (v 0 1 / 10 + 1))) (e2v (fdb (eyE v e) F G (v 0 2 / 10) a st (v 0 1 / 10 + 1))) (e3v (fdb (eyE v e) F G (v 0 2 / 10) a st (v 0 1 / 10 + 1))) (e4v (fdb (eyE v e) F G (v 0 2 / 10) a st (v 0 1 / 10 + 1))) M' ∧ (∀ c k, c ≠ 129 → M'.1 c k = M.1 c k) ∧ M'.2.2 = M.2.2 ∧ M'.1 129 0 = nI (a * 10) := by
    intro k342 a st ha hst d
    induction d with
    | zero =>
      intro f b M1 hd hb hf' hF hR l0 l1
      obtain ⟨f, rfl⟩ : ∃ f', f = f' + 1 := ⟨f - 1, by omega⟩
      obtain rfl : b = v 0 1 / 10 + 1 := by omega
      have e9 : M1.1 102 9 = nI (v 0 1) := by rw [hF _ _ (by omega)]; exact hT.2.2.2 1 (by decide)
      refine ⟨M1, ?_, hF, hR, l0⟩
      simp (disch := omega) only [ev_ck, ev_ci, ev_cv, ev_lt_, ↓reduceIte, ev_lens, ev_ix, ev_nz, ev_cl, ev_cll, ev_add, ev_addl, ev_ladd, ev_mul, ev_mull, ev_lmul, ev_sub, ev_subl, ev_lsub, ev_lt, ev_ltl, ev_llt, ev_le, ev_lel, ev_lle, ev_eq, ev_eql, ev_leq, ev_nm1, ev_nm5, ev_m1n, ev_neg1, ev_ltT, ev_ltF, ev_leT, ev_leF, ev_eqT, ev_eqF, ev_one0, ev_zero1, Nat.reduceAdd, Nat.reduceMul, Nat.reduceSub, ea_pI_eq, ev_pIn, ev_pIe, ea_pI_r, eq_self, fX11_throwLight_126, e9, l1]
    | succ d ih =>
      intro f b M1 hd hb hf' hF hR l0 l1
      obtain ⟨f, rfl⟩ : ∃ f', f = f' + 1 := ⟨f - 1, by omega⟩
      have e9 : M1.1 102 9 = nI (v 0 1) := by rw [hF _ _ (by omega)]; exact hT.2.2.2 1 (by decide)
      obtain ⟨M2, t1, t2, t3, t4, t5⟩ := inn (fX11_throwLight_328 (fX11_throwLight_126 k342 f)) a b (fdb (eyE v e) F G (v 0 2 / 10) a st b) ha (by omega) (fdb_ok h (by omega) ha hst b (by omega)) (v 0 2 / 10 + 1) ea_N 0 (ea_pI M1 129 2 0) (by omega) (by omega) (by unfold ea_N; omega) (fun c k hc => by rw [ea_pI_ne (by omega)]; exact hF c k hc) hR (by rw [ea_pI_ne (by omega)]; exact l0) (by rw [ea_pI_ne (by omega)]; exact l1) (by rw [ea_pI_eq]; rfl)
      obtain ⟨M3, r1, r2⟩ := ih f (b + 1) (ea_pI M2 129 1 (nI ((b + 1) * 10))) (by omega) (by omega) (by omega) (fun c k hc => by rw [ea_pI_ne (by omega)]; exact t2 c k hc) t3 (by rw [ea_pI_ne (by omega)]; exact t4) (by rw [ea_pI_eq])
      refine ⟨M3, ?_, r2⟩
      simp (disch := omega) only [ev_ck, ev_ci, ev_cv, ev_lt_, ↓reduceIte, ev_lens, ev_ix, ev_nz, ev_cl, ev_cll, ev_add, ev_addl, ev_ladd, ev_mul, ev_mull, ev_lmul, ev_sub, ev_subl, ev_lsub, ev_lt, ev_ltl, ev_llt, ev_le, ev_lel, ev_lle, ev_eq, ev_eql, ev_leq, ev_nm1, ev_nm5, ev_m1n, ev_neg1, ev_ltT, ev_ltF, ev_leT, ev_leF, ev_eqT, ev_eqF, ev_one0, ev_zero1, Nat.reduceAdd, Nat.reduceMul, Nat.reduceSub, ea_pI_eq, ev_pIn, ev_pIe, ea_pI_r, eq_self, fX11_throwLight_126, e9, l1]
      refine t1.trans ?_
      have ea : nI (b * 10) + 10 = nI ((b + 1) * 10) := by rw [show (10 : Int32) = nI 10 from rfl, ev_add, Nat.succ_mul]
      unfold fX11_throwLight_328
      rw [show (1 : Int32).toNatClampNeg = 1 from rfl, t5, ea]
      exact r1
  intro d
  induction d with
  | zero =>
    intro f a M1 hd ha hf' hF hR l0
    obtain ⟨f, rfl⟩ : ∃ f', f = f' + 1 := ⟨f - 1, by omega⟩
    obtain rfl : a = v 0 0 / 10 + 1 := by omega
    have e8 : M1.1 102 8 = nI (v 0 0) := by rw [hF _ _ (by omega)]; exact hT.2.2.2 0 (by decide)
    refine ⟨M1, ?_, hF, hR⟩
    simp (disch := omega) only [ev_ck, ev_ci, ev_cv, ev_lt_, ↓reduceIte, ev_lens, ev_ix, ev_nz, ev_cl, ev_cll, ev_add, ev_addl, ev_ladd, ev_mul, ev_mull, ev_lmul, ev_sub, ev_subl, ev_lsub, ev_lt, ev_ltl, ev_llt, ev_le, ev_lel, ev_lle, ev_eq, ev_eql, ev_leq, ev_nm1, ev_nm5, ev_m1n, ev_neg1, ev_ltT, ev_ltF, ev_leT, ev_leF, ev_eqT, ev_eqF, ev_one0, ev_zero1, Nat.reduceAdd, Nat.reduceMul, Nat.reduceSub, ea_pI_eq, ev_pIn, ev_pIe, ea_pI_r, eq_self, fX11_throwLight_103, e8, l0]
  | succ d ih =>
    intro f a M1 hd ha hf' hF hR l0
    obtain ⟨f, rfl⟩ : ∃ f', f = f' + 1 := ⟨f - 1, by omega⟩
    have e8 : M1.1 102 8 = nI (v 0 0) := by rw [hF _ _ (by omega)]; exact hT.2.2.2 0 (by decide)
    obtain ⟨M2, t1, t2, t3, t4⟩ := mid (fX11_throwLight_342 (fX11_throwLight_103 fX11_throwLight_356 f)) a (fda (eyE v e) F G (v 0 1 / 10) (v 0 2 / 10) a) (by omega) (fda_ok h (by omega) (by omega) a (by omega)) (v 0 1 / 10 + 1) ea_N 0 (ea_pI M1 129 1 0) (by omega) (by omega) (by unfold ea_N; omega) (fun c k hc => by rw [ea_pI_ne (by omega)]; exact hF c k hc) hR (by rw [ea_pI_ne (by omega)]; exact l0) (by rw [ea_pI_eq]; rfl)
    obtain ⟨M3, r1, r2⟩ := ih f (a + 1) (ea_pI M2 129 0 (nI ((a + 1) * 10))) (by omega) (by omega) (by omega) (fun c k hc => by rw [ea_pI_ne (by omega)]; exact t2 c k hc) t3 (by rw [ea_pI_eq])
    refine ⟨M3, ?_, r2⟩
    simp (disch := omega) only [ev_ck, ev_ci, ev_cv, ev_lt_, ↓reduceIte, ev_lens, ev_ix, ev_nz, ev_cl, ev_cll, ev_add, ev_addl, ev_ladd, ev_mul, ev_mull, ev_lmul, ev_sub, ev_subl, ev_lsub, ev_lt, ev_ltl, ev_llt, ev_le, ev_lel, ev_lle, ev_eq, ev_eql, ev_leq, ev_nm1, ev_nm5, ev_m1n, ev_neg1, ev_ltT, ev_ltF, ev_leT, ev_leF, ev_eqT, ev_eqF, ev_one0, ev_zero1, Nat.reduceAdd, Nat.reduceMul, Nat.reduceSub, ea_pI_eq, ev_pIn, ev_pIe, ea_pI_r, eq_self, fX11_throwLight_103, e8, l0]
    refine t1.trans ?_
    have ea : nI (a * 10) + 10 = nI ((a + 1) * 10) := by rw [show (10 : Int32) = nI 10 from rfl, ev_add, Nat.succ_mul]
    unfold fX11_throwLight_342
    rw [show (0 : Int32).toNatClampNeg = 0 from rfl, t4, ea]
    exact r1
end TM
section TN
variable {M : eM} {cc th : Nat} {n : Nat → Nat} {v : Nat → Nat → Nat} {o w q : Nat → Nat} {l t r : Nat → Nat → Nat} {e : Nat}
theorem py_throw (hC : Ctx M cc n v th o w q l t r) {cell i s bd : Nat} (hcell : cell < 48) (hi : i < q 0) (he : e < n 6) (hs : s < n 5) (hb : bd ≤ 99) : ∃ M', fX11_throwLight (nI cell) (nI (4 + 7 * i + 3)) (nI e) (nI s) (nI bd) M = some M' ∧ (∀ st, st = fda (eyE v e) (fun c => l i (3 + c)) (fun c => grv (fun c x => sp_col v o w x 0 c) (LL n v th o w q l t r s 999 cell) bd c) (v 0 1 / 10) (v 0 2 / 10) (v 0 0 / 10 + 1) → M'.1 100 46 = e4v st ∧ M'.1 129 0 = e1v st ∧ M'.1 129 1 = e2v st ∧ M'.1 129 2 = e3v st) ∧ Kp M M' := by
  have ho := hC.1.2.2.2.1
  have h6 := ho.2.2.2.2.2.2.1
  have hok := hC.2.1.1
  have hq := hok.1
  have hv := ho.2.2.2.2.2.2.2.2.2.1
  obtain ⟨M1, e1, f1, g1, r1⟩ := py_findFits (known := 999) hC hcell (by decide) hs
  have e1 : fX11_findFits (nI cell) (nI s) 999 M = some M1 := e1
  have f1 : FL M1 v (LL n v th o w q l t r s 999 cell) := f1
  have hC1 := hC.kp r1.kp
  have hll := LL_len hC (s := s) (kn := 999) (cell := cell)
  have hlm : ∀ e, e ∈ LL n v th o w q l t r s 999 cell → e.1 < th := fun e he => (LL_mem he).1
  generalize LL n v th o w q l t r s 999 cell = L at hll f1 hlm
  have hgv : ∀ c, grv (fun c x => sp_col v o w x 0 c) L bd c ≤ 99 := by
    intro c
    cases L with
    | nil => show 50 ≤ 99; decide
    | cons e R =>
      have b1 := mn_le (f := fun x => sp_col v o w x 0 c) (fun x => sp_col_le) (e :: R)
      have b2 := mx_le (f := fun x => sp_col v o w x 0 c) (fun x => sp_col_le) (e :: R)
      show (if _ then _ else _) ≤ 99
      by_cases hx : (tlk (fun c x => sp_col v o w x 0 c) (e :: R) bd 0 && (tlk (fun c x => sp_col v o w x 0 c) (e :: R) bd 1 && tlk (fun c x => sp_col v o w x 0 c) (e :: R) bd 2)) = true
      · rw [if_pos hx]; show (mn (fun x => sp_col v o w x 0 c) (e :: R) + mx (fun x => sp_col v o w x 0 c) (e :: R)) / 2 ≤ 99; omega
      · rw [if_neg hx]; omega
  have gr := fun M3 (h3 : Ctx M3 cc n v th o w q l t r) (hL3 : FL M3 v L) (c : Nat) (hc : c < 3) => py_grey h3 hL3 hlm hll hb hc
  generalize hG : (fun c => grv (fun c x => sp_col v o w x 0 c) L bd c) = G
  have gr : ∀ M3, Ctx M3 cc n v th o w q l t r → FL M3 v L → ∀ c, c < 3 → fX11_greyOf (nI bd) (nI c) M3 = some (nI (G c), M3) := fun M3 h3 hL3 c hc => by rw [← hG]; exact gr M3 h3 hL3 c hc
  have hGv : ∀ c, c < 3 → G c ≤ 99 := fun c _ => by rw [← hG]; exact hgv c
  have hp : pok (eyE v e) (fun c => l i (3 + c)) G := by
    refine ⟨fun k c hk hc => ?_, fun c hc => (hok.2.2.2.2.1 i hi).2.2.2.1 c hc, hGv⟩
    exact ho.2.2.2.2.2.2.2.2.2.2.2.2.2.2 _ (by omega)
  -- what is wanted
  have kf : ∀ M3, (∀ c k, c ≠ 128 → M3.1 c k = M1.1 c k) → M3.2.2 = M1.2.2 → Kp M1 M3 ∧ FL M3 v L := fun M3 hF hR => ⟨⟨⟨fun c k hk => hF c k (by have := isInv_in hk; omega), hR⟩, fun c k h1 h2 => hF c k (by omega)⟩, by rw [hF _ _ (by omega)]; exact f1.1, fun j hj => ⟨by rw [hF _ _ (by omega)]; exact (f1.2 j hj).1, by rw [hF _ _ (by omega)]; exact (f1.2 j hj).2⟩⟩
  have eE : ∀ M3, Ctx M3 cc n v th o w q l t r → ∀ k c, k < 3 → c < 3 → M3.1 109 (9 * e + 3 * k + c) = nI (eyE v e k c) := fun M3 h3 k c hk hc => by
    rw [show 9 * e + 3 * k + c = e * 9 + k * 3 + c by omega]
    exact h3.1.2.2.2.2.2.1.2.2.2.2.2.2 _ (by omega)
  have inn : ∀ (k78 : Int32 → Int32 → Int32 → Int32 → eM → Option eM) (k : Nat), k < 3 → ∀ (d f c : Nat) (M3 : eM), 3 - c = d → c ≤ 3 → d < f → (∀ c k, c ≠ 128 → M3.1 c k = M1.1 c k) → M3.2.2 = M1.2.2 → (∀ k', k' < k → M3.1 128 k' = nI (wtv (eyE v e) G k' 3)) → M3.1 128 k = nI (wtv (eyE v e) G k c) → ∃ M4, fX11_throwLight_30 k78 f (nI (4 + 7 * i + 3)) (nI e) (nI bd) (nI k) (nI c) M3 = k78 (nI (4 + 7 * i + 3)) (nI e) (nI bd) (nI k) M4 ∧ (∀ c k, c ≠ 128 → M4.1 c k = M1.1 c k) ∧ M4.2.2 = M1.2.2 ∧ (∀ k', k' < k + 1 → M4.1 128 k' = nI (wtv (eyE v e) G k' 3)) := by
    intro k78 k hk d
    induction d with
    | zero =>
      intro f c M3 hd hc hf hF hR hW hw
      obtain ⟨f, rfl⟩ : ∃ f', f = f' + 1 := ⟨f - 1, by omega⟩
      obtain rfl : c = 3 := by omega
      refine ⟨M3, ?_, hF, hR, fun k' hk' => ?_⟩
      · simp (disch := omega) only [ev_ck, ev_ci, ev_cv, ev_lt_, ↓reduceIte, ev_lens, ev_ix, ev_nz, ev_cl, ev_cll, ev_add, ev_addl, ev_ladd, ev_mul, ev_mull, ev_lmul, ev_sub, ev_subl, ev_lsub, ev_lt, ev_ltl, ev_llt, ev_le, ev_lel, ev_lle, ev_eq, ev_eql, ev_leq, ev_nm1, ev_nm5, ev_m1n, ev_neg1, ev_ltT, ev_ltF, ev_leT, ev_leF, ev_eqT, ev_eqF, ev_one0, ev_zero1, Nat.reduceAdd, Nat.reduceMul, Nat.reduceSub, ea_pI_eq, ev_pIn, ev_pIe, ea_pI_r, eq_self, fX11_throwLight_30]
      · by_cases ek : k' = k
        · rw [ek]; exact hw
        · exact hW k' (by omega)
    | succ d ih =>
      intro f c M3 hd hc hf hF hR hW hw
      obtain ⟨f, rfl⟩ : ∃ f', f = f' + 1 := ⟨f - 1, by omega⟩
      obtain ⟨k3, fl3⟩ := kf M3 hF hR
      have gg := gr M3 (hC1.kp k3) fl3 c (by omega)
      have ee := eE M3 (hC1.kp k3) k c hk (by omega)
      obtain ⟨M4, q1, q2⟩ := ih f (c + 1) (ea_pI M3 128 k (nI (wtv (eyE v e) G k c + eyE v e k c * G c))) (by omega) (by omega) (by omega) (fun c k hc => by rw [ea_pI_ne (by omega)]; exact hF c k hc) hR (fun k' hk' => by rw [ea_pI_ne (by omega)]; exact hW k' hk') (by rw [ea_pI_eq]; rfl)
      refine ⟨M4, ?_, q2⟩
      simp (disch := omega) only [ev_ck, ev_ci, ev_cv, ev_lt_, ↓reduceIte, ev_lens, ev_ix, ev_nz, ev_cl, ev_cll, ev_add, ev_addl, ev_ladd, ev_mul, ev_mull, ev_lmul, ev_sub, ev_subl, ev_lsub, ev_lt, ev_ltl, ev_llt, ev_le, ev_lel, ev_lle, ev_eq, ev_eql, ev_leq, ev_nm1, ev_nm5, ev_m1n, ev_neg1, ev_ltT, ev_ltF, ev_leT, ev_leF, ev_eqT, ev_eqF, ev_one0, ev_zero1, Nat.reduceAdd, Nat.reduceMul, Nat.reduceSub, ea_pI_eq, ev_pIn, ev_pIe, ea_pI_r, eq_self, fX11_throwLight_30, gg, ee, hw]
      exact q1
  have out : ∀ (d f k : Nat) (M3 : eM), 3 - k = d → k ≤ 3 → d < f → (∀ c k, c ≠ 128 → M3.1 c k = M1.1 c k) → M3.2.2 = M1.2.2 → (∀ k', k' < k → M3.1 128 k' = nI (wtv (eyE v e) G k' 3)) → ∃ M4, fX11_throwLight_13 fX11_throwLight_84 f (nI (4 + 7 * i + 3)) (nI e) (nI bd) (nI k) M3 = fX11_throwLight_84 (nI (4 + 7 * i + 3)) (nI e) M4 ∧ (∀ c k, c ≠ 128 → M4.1 c k = M1.1 c k) ∧ M4.2.2 = M1.2.2 ∧ (∀ k', k' < 3 → M4.1 128 k' = nI (wtv (eyE v e) G k' 3)) := by
    intro d
    induction d with
    | zero =>
      intro f k M3 hd hk hf hF hR hW
      obtain ⟨f, rfl⟩ : ∃ f', f = f' + 1 := ⟨f - 1, by omega⟩
      obtain rfl : k = 3 := by omega
      refine ⟨M3, ?_, hF, hR, hW⟩
      simp (disch := omega) only [ev_ck, ev_ci, ev_cv, ev_lt_, ↓reduceIte, ev_lens, ev_ix, ev_nz, ev_cl, ev_cll, ev_add, ev_addl, ev_ladd, ev_mul, ev_mull, ev_lmul, ev_sub, ev_subl, ev_lsub, ev_lt, ev_ltl, ev_llt, ev_le, ev_lel, ev_lle, ev_eq, ev_eql, ev_leq, ev_nm1, ev_nm5, ev_m1n, ev_neg1, ev_ltT, ev_ltF, ev_leT, ev_leF, ev_eqT, ev_eqF, ev_one0, ev_zero1, Nat.reduceAdd, Nat.reduceMul, Nat.reduceSub, ea_pI_eq, ev_pIn, ev_pIe, ea_pI_r, eq_self, fX11_throwLight_13]
    | succ d ih =>
      intro f k M3 hd hk hf hF hR hW
      obtain ⟨f, rfl⟩ : ∃ f', f = f' + 1 := ⟨f - 1, by omega⟩
      obtain ⟨M4, t1, t2, t3, t4⟩ := inn (fX11_throwLight_78 (fX11_throwLight_13 fX11_throwLight_84 f)) k (by omega) 3 ea_N 0 (ea_pI M3 128 k 0) (by omega) (by omega) (by unfold ea_N; omega) (fun c k hc => by rw [ea_pI_ne (by omega)]; exact hF c k hc) hR (fun k' hk' => by rw [ea_pI_ne (by omega)]; exact hW k' hk') (by rw [ea_pI_eq]; rfl)
      obtain ⟨M5, q1, q2⟩ := ih f (k + 1) M4 (by omega) (by omega) (by omega) t2 t3 t4
      refine ⟨M5, ?_, q2⟩
      simp (disch := omega) only [ev_ck, ev_ci, ev_cv, ev_lt_, ↓reduceIte, ev_lens, ev_ix, ev_nz, ev_cl, ev_cll, ev_add, ev_addl, ev_ladd, ev_mul, ev_mull, ev_lmul, ev_sub, ev_subl, ev_lsub, ev_lt, ev_ltl, ev_llt, ev_le, ev_lel, ev_lle, ev_eq, ev_eql, ev_leq, ev_nm1, ev_nm5, ev_m1n, ev_neg1, ev_ltT, ev_ltF, ev_leT, ev_leF, ev_eqT, ev_eqF, ev_one0, ev_zero1, Nat.reduceAdd, Nat.reduceMul, Nat.reduceSub, ea_pI_eq, ev_pIn, ev_pIe, ea_pI_r, eq_self, fX11_throwLight_13]
      refine (show fX11_throwLight_30 _ ea_N _ (nI e) (nI bd) (nI k) 0 _ = _ from t1).trans ?_
      simp (disch := omega) only [ev_ck, ev_ci, ev_cv, ev_lt_, ↓reduceIte, ev_lens, ev_ix, ev_nz, ev_cl, ev_cll, ev_add, ev_addl, ev_ladd, ev_mul, ev_mull, ev_lmul, ev_sub, ev_subl, ev_lsub, ev_lt, ev_ltl, ev_llt, ev_le, ev_lel, ev_lle, ev_eq, ev_eql, ev_leq, ev_nm1, ev_nm5, ev_m1n, ev_neg1, ev_ltT, ev_ltF, ev_leT, ev_leF, ev_eqT, ev_eqF, ev_one0, ev_zero1, Nat.reduceAdd, Nat.reduceMul, Nat.reduceSub, ea_pI_eq, ev_pIn, ev_pIe, ea_pI_r, eq_self, fX11_throwLight_78]
      exact q1
  obtain ⟨M4, t1, t2, t3, t4⟩ := out 3 ea_N 0 M1 (by omega) (by omega) (by unfold ea_N; omega) (fun _ _ _ => rfl) rfl (fun k' hk' => by omega)
  obtain ⟨k4, fl4⟩ := kf M4 t2 t3
  have hC4 := hC1.kp k4
  have hT : T128 M4 v n e (4 + 7 * i + 3) (fun c => l i (3 + c)) G := ⟨t4, fun k c hk hc => eE M4 hC4 k c hk hc, fun c hc => by
    have := hC4.2.1.2.2.1.2.1 i (3 + c) hi (by omega)
    rw [Nat.zero_add, ← Nat.add_assoc] at this
    exact this, fun c hc => hC4.1.2.2.2.2.2.1.2.1 c hc⟩
  have hv0 := hv 0 (by decide)
  obtain ⟨M5, q1, q2, q3⟩ := py_srch hp (by omega) (by omega) hv hT (v 0 0 / 10 + 1) ea_N 0 (ea_pI M4 129 0 0) (by omega) (by omega) (by unfold ea_N; omega) (fun c k hc => by rw [ea_pI_ne (by omega)]) rfl (by rw [ea_pI_eq]; rfl)
  generalize hst : fda (eyE v e) (fun c => l i (3 + c)) G (v 0 1 / 10) (v 0 2 / 10) (v 0 0 / 10 + 1) = st at q1
  have k5 : Kp M4 M5 := ⟨⟨fun c k hk => q2 c k (by have := isInv_in hk; omega), q3⟩, fun c k h1 h2 => q2 c k (by omega)⟩
  have k6 : Kp M5 (ea_pI (ea_pI (ea_pI (ea_pI M5 129 0 (e1v st)) 129 1 (e2v st)) 129 2 (e3v st)) 100 46 (e4v st)) := ⟨⟨fun c k hk => by have := isInv_in hk; simp (disch := omega) only [ev_ck, ev_ci, ev_cv, ev_lt_, ↓reduceIte, ev_lens, ev_ix, ev_nz, ev_cl, ev_cll, ev_add, ev_addl, ev_ladd, ev_mul, ev_mull, ev_lmul, ev_sub, ev_subl, ev_lsub, ev_lt, ev_ltl, ev_llt, ev_le, ev_lel, ev_lle, ev_eq, ev_eql, ev_leq, ev_nm1, ev_nm5, ev_m1n, ev_neg1, ev_ltT, ev_ltF, ev_leT, ev_leF, ev_eqT, ev_eqF, ev_one0, ev_zero1, Nat.reduceAdd, Nat.reduceMul, Nat.reduceSub, ea_pI_eq, ev_pIn, ev_pIe, ea_pI_r, eq_self], rfl⟩, fun c k h1 h2 => by simp (disch := omega) only [ev_ck, ev_ci, ev_cv, ev_lt_, ↓reduceIte, ev_lens, ev_ix, ev_nz, ev_cl, ev_cll, ev_add, ev_addl, ev_ladd, ev_mul, ev_mull, ev_lmul, ev_sub, ev_subl, ev_lsub, ev_lt, ev_ltl, ev_llt, ev_le, ev_lel, ev_lle, ev_eq, ev_eql, ev_leq, ev_nm1, ev_nm5, ev_m1n, ev_neg1, ev_ltT, ev_ltF, ev_leT, ev_leF, ev_eqT, ev_eqF, ev_one0, ev_zero1, Nat.reduceAdd, Nat.reduceMul, Nat.reduceSub, ea_pI_eq, ev_pIn, ev_pIe, ea_pI_r, eq_self]⟩
  refine ⟨ea_pI (ea_pI (ea_pI (ea_pI M5 129 0 (e1v st)) 129 1 (e2v st)) 129 2 (e3v st)) 100 46 (e4v st), ?_, fun st' hs' => ?_, ((r1.kp.trans k4).trans k5).trans k6⟩
  · unfold fX11_throwLight fX11_throwLight_0
    rw [e1, ev_cv]
    refine (show fX11_throwLight_13 _ ea_N _ (nI e) (nI bd) 0 M1 = _ from t1).trans ?_
    unfold fX11_throwLight_84
    refine (show fX11_throwLight_103 _ ea_N _ (nI e) 0 0 0 (-1) (ea_pI M4 129 0 0) = _ from q1).trans ?_
    rfl
  · rw [hs']
    exact ⟨by simp (disch := omega) only [ev_ck, ev_ci, ev_cv, ev_lt_, ↓reduceIte, ev_lens, ev_ix, ev_nz, ev_cl, ev_cll, ev_add, ev_addl, ev_ladd, ev_mul, ev_mull, ev_lmul, ev_sub, ev_subl, ev_lsub, ev_lt, ev_ltl, ev_llt, ev_le, ev_lel, ev_lle, ev_eq, ev_eql, ev_leq, ev_nm1, ev_nm5, ev_m1n, ev_neg1, ev_ltT, ev_ltF, ev_leT, ev_leF, ev_eqT, ev_eqF, ev_one0, ev_zero1, Nat.reduceAdd, Nat.reduceMul, Nat.reduceSub, ea_pI_eq, ev_pIn, ev_pIe, ea_pI_r, eq_self], by simp (disch := omega) only [ev_ck, ev_ci, ev_cv, ev_lt_, ↓reduceIte, ev_lens, ev_ix, ev_nz, ev_cl, ev_cll, ev_add, ev_addl, ev_ladd, ev_mul, ev_mull, ev_lmul, ev_sub, ev_subl, ev_lsub, ev_lt, ev_ltl, ev_llt, ev_le, ev_lel, ev_lle, ev_eq, ev_eql, ev_leq, ev_nm1, ev_nm5, ev_m1n, ev_neg1, ev_ltT, ev_ltF, ev_leT, ev_leF, ev_eqT, ev_eqF, ev_one0, ev_zero1, Nat.reduceAdd, Nat.reduceMul, Nat.reduceSub, ea_pI_eq, ev_pIn, ev_pIe, ea_pI_r, eq_self], by simp (disch := omega) only [ev_ck, ev_ci, ev_cv, ev_lt_, ↓reduceIte, ev_lens, ev_ix, ev_nz, ev_cl, ev_cll, ev_add, ev_addl, ev_ladd, ev_mul, ev_mull, ev_lmul, ev_sub, ev_subl, ev_lsub, ev_lt, ev_ltl, ev_llt, ev_le, ev_lel, ev_lle, ev_eq, ev_eql, ev_leq, ev_nm1, ev_nm5, ev_m1n, ev_neg1, ev_ltT, ev_ltF, ev_leT, ev_leF, ev_eqT, ev_eqF, ev_one0, ev_zero1, Nat.reduceAdd, Nat.reduceMul, Nat.reduceSub, ea_pI_eq, ev_pIn, ev_pIe, ea_pI_r, eq_self], by simp (disch := omega) only [ev_ck, ev_ci, ev_cv, ev_lt_, ↓reduceIte, ev_lens, ev_ix, ev_nz, ev_cl, ev_cll, ev_add, ev_addl, ev_ladd, ev_mul, ev_mull, ev_lmul, ev_sub, ev_subl, ev_lsub, ev_lt, ev_ltl, ev_llt, ev_le, ev_lel, ev_lle, ev_eq, ev_eql, ev_leq, ev_nm1, ev_nm5, ev_m1n, ev_neg1, ev_ltT, ev_ltF, ev_leT, ev_leF, ev_eqT, ev_eqF, ev_one0, ev_zero1, Nat.reduceAdd, Nat.reduceMul, Nat.reduceSub, ea_pI_eq, ev_pIn, ev_pIe, ea_pI_r, eq_self]⟩
end TN
