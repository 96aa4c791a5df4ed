section SC
variable {M : eM} {B : Nat → Nat} {len : Nat}
/-- the frame of the model's scan -/
def FrS (M M' : eM) : Prop := (∀ c k, (c ≠ 100 ∨ k < 3 ∨ 7 < k) → M'.1 c k = M.1 c k) ∧ (∀ c k, c ≠ 100 → M'.2.1 c k = M.2.1 c k) ∧ M'.2.2 = M.2.2
theorem FrS.rf (M : eM) : FrS M M := ⟨fun _ _ _ => rfl, fun _ _ _ => rfl, rfl⟩
theorem FrS.trans {A B D : eM} (h : FrS A B) (g : FrS B D) : FrS A D := ⟨fun c k p => (g.1 c k p).trans (h.1 c k p), fun c k p => (g.2.1 c k p).trans (h.2.1 c k p), g.2.2.trans h.2.2⟩
theorem FrS.pI {M M1 : eM} (h : FrS M M1) {k : Nat} {x : Int32} (hk : 3 ≤ k ∧ k ≤ 7) : FrS M (ea_pI M1 100 k x) := ⟨fun c j p => by rw [ea_pI_ne (by omega)]; exact h.1 c j p, h.2.1, h.2.2⟩
theorem FrS.pL {M M1 : eM} (h : FrS M M1) {x : Int64} : FrS M (ea_pL M1 100 10 x) := ⟨h.1, fun c j p => by rw [ev_pLn (by omega)]; exact h.2.1 c j p, h.2.2⟩
theorem BY.fs {M M' : eM} (h : BY M B len) (f : FrS M M') : BY M' B len := ⟨h.1, fun k hk => by
  have e1 : M'.1 101 k = M.1 101 k := f.1 _ _ (by omega)
  have e2 : M'.1 2 k = M.1 2 k := f.1 _ _ (by omega)
  rw [e1, e2]
  exact h.2 k hk⟩
theorem isLt_t {b : Nat} : isLt b = true ↔ 97 ≤ b ∧ b ≤ 122 := by
  unfold isLt
  rw [Bool.and_eq_true, decide_eq_true_eq, decide_eq_true_eq]
theorem isDg_t {b : Nat} : isDg b = true ↔ 48 ≤ b ∧ b ≤ 57 := by
  unfold isDg
  rw [Bool.and_eq_true, decide_eq_true_eq, decide_eq_true_eq]
theorem sm_y {b : Nat} (hb : b < 256) (M1 : eM) : fX11_isSmall (nI b) M1 = some (if isLt b = true then 1 else 0, M1) := by
  unfold fX11_isSmall fX11_isSmall_0
  by_cases c1 : b < 97
  · rw [if_neg (show ¬ isLt b = true from fun h => by have := isLt_t.mp h; omega)]
    simp (disch := omega) only [ev_ck, ev_ci, ev_cv, ev_lt_, ↓reduceIte, ev_lens, ev_ix, ev_nz, ev_cl, ev_cll, ev_add, ev_addl, ev_ladd, ev_mul, ev_mull, ev_lmul, ev_sub, ev_subl, ev_lsub, ev_lt, ev_ltl, ev_llt, ev_le, ev_lel, ev_lle, ev_eq, ev_eql, ev_leq, ev_nm1, ev_nm5, ev_m1n, ev_neg1, ev_ltT, ev_ltF, ev_leT, ev_leF, ev_eqT, ev_eqF, ev_one0, ev_zero1, Nat.reduceAdd, Nat.reduceMul, Nat.reduceSub, ea_pI_eq, ev_pIn, ev_pIe, ea_pI_r, eq_self]
  · by_cases c2 : 122 < b
    · rw [if_neg (show ¬ isLt b = true from fun h => by have := isLt_t.mp h; omega)]
      simp (disch := omega) only [ev_ck, ev_ci, ev_cv, ev_lt_, ↓reduceIte, ev_lens, ev_ix, ev_nz, ev_cl, ev_cll, ev_add, ev_addl, ev_ladd, ev_mul, ev_mull, ev_lmul, ev_sub, ev_subl, ev_lsub, ev_lt, ev_ltl, ev_llt, ev_le, ev_lel, ev_lle, ev_eq, ev_eql, ev_leq, ev_nm1, ev_nm5, ev_m1n, ev_neg1, ev_ltT, ev_ltF, ev_leT, ev_leF, ev_eqT, ev_eqF, ev_one0, ev_zero1, Nat.reduceAdd, Nat.reduceMul, Nat.reduceSub, ea_pI_eq, ev_pIn, ev_pIe, ea_pI_r, eq_self]
    · rw [if_pos (isLt_t.mpr ⟨by omega, by omega⟩)]
      simp (disch := omega) only [ev_ck, ev_ci, ev_cv, ev_lt_, ↓reduceIte, ev_lens, ev_ix, ev_nz, ev_cl, ev_cll, ev_add, ev_addl, ev_ladd, ev_mul, ev_mull, ev_lmul, ev_sub, ev_subl, ev_lsub, ev_lt, ev_ltl, ev_llt, ev_le, ev_lel, ev_lle, ev_eq, ev_eql, ev_leq, ev_nm1, ev_nm5, ev_m1n, ev_neg1, ev_ltT, ev_ltF, ev_leT, ev_leF, ev_eqT, ev_eqF, ev_one0, ev_zero1, Nat.reduceAdd, Nat.reduceMul, Nat.reduceSub, ea_pI_eq, ev_pIn, ev_pIe, ea_pI_r, eq_self]
theorem dg_y {b : Nat} (hb : b < 256) (M1 : eM) : fX11_isDigit (nI b) M1 = some (if isDg b = true then 1 else 0, M1) := by
  unfold fX11_isDigit fX11_isDigit_0
  by_cases c1 : b < 48
  · rw [if_neg (show ¬ isDg b = true from fun h => by have := isDg_t.mp h; omega)]
    simp (disch := omega) only [ev_ck, ev_ci, ev_cv, ev_lt_, ↓reduceIte, ev_lens, ev_ix, ev_nz, ev_cl, ev_cll, ev_add, ev_addl, ev_ladd, ev_mul, ev_mull, ev_lmul, ev_sub, ev_subl, ev_lsub, ev_lt, ev_ltl, ev_llt, ev_le, ev_lel, ev_lle, ev_eq, ev_eql, ev_leq, ev_nm1, ev_nm5, ev_m1n, ev_neg1, ev_ltT, ev_ltF, ev_leT, ev_leF, ev_eqT, ev_eqF, ev_one0, ev_zero1, Nat.reduceAdd, Nat.reduceMul, Nat.reduceSub, ea_pI_eq, ev_pIn, ev_pIe, ea_pI_r, eq_self]
  · by_cases c2 : 57 < b
    · rw [if_neg (show ¬ isDg b = true from fun h => by have := isDg_t.mp h; omega)]
      simp (disch := omega) only [ev_ck, ev_ci, ev_cv, ev_lt_, ↓reduceIte, ev_lens, ev_ix, ev_nz, ev_cl, ev_cll, ev_add, ev_addl, ev_ladd, ev_mul, ev_mull, ev_lmul, ev_sub, ev_subl, ev_lsub, ev_lt, ev_ltl, ev_llt, ev_le, ev_lel, ev_lle, ev_eq, ev_eql, ev_leq, ev_nm1, ev_nm5, ev_m1n, ev_neg1, ev_ltT, ev_ltF, ev_leT, ev_leF, ev_eqT, ev_eqF, ev_one0, ev_zero1, Nat.reduceAdd, Nat.reduceMul, Nat.reduceSub, ea_pI_eq, ev_pIn, ev_pIe, ea_pI_r, eq_self]
    · rw [if_pos (isDg_t.mpr ⟨by omega, by omega⟩)]
      simp (disch := omega) only [ev_ck, ev_ci, ev_cv, ev_lt_, ↓reduceIte, ev_lens, ev_ix, ev_nz, ev_cl, ev_cll, ev_add, ev_addl, ev_ladd, ev_mul, ev_mull, ev_lmul, ev_sub, ev_subl, ev_lsub, ev_lt, ev_ltl, ev_llt, ev_le, ev_lel, ev_lle, ev_eq, ev_eql, ev_leq, ev_nm1, ev_nm5, ev_m1n, ev_neg1, ev_ltT, ev_ltF, ev_leT, ev_leF, ev_eqT, ev_eqF, ev_one0, ev_zero1, Nat.reduceAdd, Nat.reduceMul, Nat.reduceSub, ea_pI_eq, ev_pIn, ev_pIe, ea_pI_r, eq_self]
theorem sm_m (M1 : eM) : fX11_isSmall (-1) M1 = some (0, M1) := by
  unfold fX11_isSmall fX11_isSmall_0
  exact if_pos (by decide)
theorem dg_m (M1 : eM) : fX11_isDigit (-1) M1 = some (0, M1) := by
  unfold fX11_isDigit fX11_isDigit_0
  exact if_pos (by decide)
theorem py_skip (hB : BY M B len) (h2 : M.1 100 2 = nI len) (k31 : Int32 → eM → Option eM) : ∀ (d f p : Nat), len - p = d → p ≤ len → d < f → fX11_scan_5 k31 f (nI p) M = k31 (nI (rnr isBk B len p)) M := by
  have hl := hB.1
  intro d
  induction d with
  | zero =>
    intro f p hd hp hf
    obtain ⟨f, rfl⟩ : ∃ f', f = f' + 1 := ⟨f - 1, by omega⟩
    have by1 := py_byte hB h2 (k := p) (by omega)
    rw [if_neg (show ¬ p < len by omega)] at by1
    rw [rnr_no (fun h => by omega), fX11_scan_5, by1, ev_ci, if_neg (by decide), by1, ev_ci, if_neg (by decide)]
  | succ d ih =>
    intro f p hd hp hf
    obtain ⟨f, rfl⟩ : ∃ f', f = f' + 1 := ⟨f - 1, by omega⟩
    have by1 := py_byte hB h2 (k := p) (by omega)
    rw [if_pos (show p < len by omega)] at by1
    have hb := (hB.2 p (by omega)).1
    have nx := ih f (p + 1) (by omega) (by omega) (by omega)
    have go : fX11_scan_25 (fX11_scan_5 k31 f) (nI p) M = fX11_scan_5 k31 f (nI (p + 1)) M := by
      unfold fX11_scan_25
      rw [show nI p + 1 = nI (p + 1) from nI_add p 1]
    rw [fX11_scan_5, by1, ev_ci]
    by_cases e1 : B p = 32
    · rw [if_pos (by rw [e1]; rfl), go, nx, rnr_yes (p := p) (by omega) (by unfold isBk; rw [decide_eq_true e1, Bool.true_or])]
    · rw [if_neg (by rw [show (32 : Int32) = nI 32 from rfl, pn_eqI (by omega) (by omega)]; exact e1), by1, ev_ci]
      by_cases e2 : B p = 10
      · rw [if_pos (by rw [e2]; rfl), go, nx, rnr_yes (p := p) (by omega) (by unfold isBk; rw [decide_eq_true e2, Bool.or_true])]
      · rw [if_neg (by rw [show (10 : Int32) = nI 10 from rfl, pn_eqI (by omega) (by omega)]; exact e2), rnr_no (fun _ => by unfold isBk; rw [decide_eq_false e1, decide_eq_false e2]; rfl)]
/-- a WORD scanned -/
theorem py_word (hB : BY M B len) (h2 : M.1 100 2 = nI len) {q : Nat} (k130 : Int32 → Int32 → eM → Option eM) : ∀ (d f j : Nat) (M1 : eM), len - (q + j) = d → q + j ≤ len → d < f → FrS M M1 → (j ≤ 8 → (M1.2.1 100 10).toInt = (wcd 32 B q j : Int) ∧ wcd 32 B q j + 1 ≤ 32 ^ j) → ∃ M2, fX11_scan_80 k130 f (nI q) (nI (q + j)) M1 = k130 (nI q) (nI (rnr isLt B len (q + j))) M2 ∧ M2.1 = M1.1 ∧ (rnr isLt B len (q + j) - q ≤ 8 → (M2.2.1 100 10).toInt = (wcd 32 B q (rnr isLt B len (q + j) - q) : Int)) ∧ FrS M M2 := by
  have hl := hB.1
  intro d
  induction d with
  | zero =>
    intro f j M1 hd hp hf hF hw
    obtain ⟨f, rfl⟩ : ∃ f', f = f' + 1 := ⟨f - 1, by omega⟩
    have by1 := py_byte (hB.fs hF) ((hF.1 100 2 (by omega)).trans h2) (k := q + j) (by omega)
    rw [if_neg (show ¬ q + j < len by omega)] at by1
    have e : rnr isLt B len (q + j) = q + j := rnr_no (fun h => by omega)
    refine ⟨M1, ?_, rfl, fun h => by rw [e] at h ⊢; rw [show q + j - q = j by omega] at h ⊢; exact (hw h).1, hF⟩
    rw [e, fX11_scan_80, by1, ev_ci, sm_m, ev_ci, if_pos rfl]
  | succ d ih =>
    intro f j M1 hd hp hf hF hw
    obtain ⟨f, rfl⟩ : ∃ f', f = f' + 1 := ⟨f - 1, by omega⟩
    have by1 := py_byte (hB.fs hF) ((hF.1 100 2 (by omega)).trans h2) (k := q + j) (by omega)
    rw [if_pos (show q + j < len by omega)] at by1
    have hb := (hB.2 (q + j) (by omega)).1
    by_cases ht : isLt (B (q + j)) = true
    · have hb2 := isLt_t.mp ht
      by_cases h8 : 8 ≤ j
      · obtain ⟨M2, r1, r2, r3, r4⟩ := ih f (j + 1) M1 (by omega) (by omega) (by omega) hF (fun h => by omega)
        rw [← Nat.add_assoc] at r1 r3
        rw [← rnr_yes (by omega) ht] at r1 r3
        refine ⟨M2, ?_, r2, r3, r4⟩
        rw [fX11_scan_80, by1, ev_ci, sm_y hb, ev_ci, if_pos ht, if_neg (by decide), ev_sub (Nat.le_add_right _ _), Nat.add_sub_cancel_left, if_pos (by rw [show (8 : Int32) = nI 8 from rfl, pn_leI (by omega) (by omega)]; omega)]
        unfold fX11_scan_124
        rw [show nI (q + j) + 1 = nI (q + j + 1) from nI_add (q + j) 1]
        exact r1
      · obtain ⟨w1, w2⟩ := hw (by omega)
        have c32 : (32 : Int64).toInt = 32 := by decide
        have c97 : (97 : Int64).toInt = 97 := by decide
        have c1 : (1 : Int64).toInt = 1 := by decide
        have cb : ((nI (B (q + j))).toInt64).toInt = ((B (q + j) : Nat) : Int) := by rw [Int32.toInt_toInt64, nI_toInt (by omega)]
        have pw : (32 : Nat) ^ j ≤ 32 ^ 7 := Nat.pow_le_pow_right (by decide) (by omega)
        have e7 : (32 : Nat) ^ 7 = 34359738368 := by decide
        have m1 := pl_mul c32 w1 (by omega) (by omega)
        have a1 := pl_add m1 cb (by omega) (by omega)
        have s1 := pl_sub a1 c97 (by omega) (by omega)
        have a2 := pl_add s1 c1 (by omega) (by omega)
        obtain ⟨M2, r1, r2, r3, r4⟩ := ih f (j + 1) (ea_pL M1 100 10 ((((32 : Int64) * M1.2.1 100 10 + (nI (B (q + j))).toInt64) - 97) + 1)) (by omega) (by omega) (by omega) hF.pL (fun h => by
          refine ⟨?_, ?_⟩
          · rw [ev_pL, a2]
            show _ = ((wcd 32 B q j * 32 + (B (q + j) - 96) : Nat) : Int)
            omega
          · show wcd 32 B q j * 32 + (B (q + j) - 96) + 1 ≤ 32 ^ (j + 1)
            rw [Nat.pow_succ]
            omega)
        rw [← Nat.add_assoc] at r1 r3
        rw [← rnr_yes (by omega) ht] at r1 r3
        refine ⟨M2, ?_, r2, r3, r4⟩
        rw [fX11_scan_80, by1, ev_ci, sm_y hb, ev_ci, if_pos ht, if_neg (by decide), ev_sub (Nat.le_add_right _ _), Nat.add_sub_cancel_left, if_neg (by rw [show (8 : Int32) = nI 8 from rfl, pn_leI (by omega) (by omega)]; omega), by1, ev_ci]
        unfold fX11_scan_124
        rw [show nI (q + j) + 1 = nI (q + j + 1) from nI_add (q + j) 1]
        exact r1
    · have e : rnr isLt B len (q + j) = q + j := rnr_no (fun _ => Bool.eq_false_iff.mpr ht)
      refine ⟨M1, ?_, rfl, fun h => by rw [e] at h ⊢; rw [show q + j - q = j by omega] at h ⊢; exact (hw h).1, hF⟩
      rw [e, fX11_scan_80, by1, ev_ci, sm_y hb, ev_ci, if_neg ht, if_pos rfl]
/-- a number scanned -/
theorem py_numb (hB : BY M B len) (h2 : M.1 100 2 = nI len) {q : Nat} (k236 : Int32 → Int32 → eM → Option eM) : ∀ (d f j : Nat) (M1 : eM), len - (q + j) = d → q + j ≤ len → d < f → FrS M M1 → (j ≤ 4 → M1.1 100 7 = nI (nvl B q j)) → ∃ M2, fX11_scan_185 k236 f (nI q) (nI (q + j)) M1 = k236 (nI q) (nI (rnr isDg B len (q + j))) M2 ∧ M2.1 100 5 = M1.1 100 5 ∧ (rnr isDg B len (q + j) - q ≤ 4 → M2.1 100 7 = nI (nvl B q (rnr isDg B len (q + j) - q))) ∧ FrS M M2 := by
  have hl := hB.1
  intro d
  induction d with
  | zero =>
    intro f j M1 hd hp hf hF hw
    obtain ⟨f, rfl⟩ : ∃ f', f = f' + 1 := ⟨f - 1, by omega⟩
    have by1 := py_byte (hB.fs hF) ((hF.1 100 2 (by omega)).trans h2) (k := q + j) (by omega)
    rw [if_neg (show ¬ q + j < len by omega)] at by1
    have e : rnr isDg B len (q + j) = q + j := rnr_no (fun h => by omega)
    refine ⟨M1, ?_, rfl, fun h => by rw [e] at h ⊢; rw [show q + j - q = j by omega] at h ⊢; exact hw h, hF⟩
    rw [e, fX11_scan_185, by1, ev_ci, dg_m, ev_ci, if_pos rfl]
  | succ d ih =>
    intro f j M1 hd hp hf hF hw
    obtain ⟨f, rfl⟩ : ∃ f', f = f' + 1 := ⟨f - 1, by omega⟩
    have by1 := py_byte (hB.fs hF) ((hF.1 100 2 (by omega)).trans h2) (k := q + j) (by omega)
    rw [if_pos (show q + j < len by omega)] at by1
    have hb := (hB.2 (q + j) (by omega)).1
    by_cases ht : isDg (B (q + j)) = true
    · have hb2 := isDg_t.mp ht
      by_cases h8 : 4 ≤ j
      · obtain ⟨M2, r1, r2, r3, r4⟩ := ih f (j + 1) (ea_pI M1 100 7 (M1.1 100 7)) (by omega) (by omega) (by omega) (hF.pI (by omega)) (fun h => by omega)
        rw [← Nat.add_assoc] at r1 r3
        rw [← rnr_yes (by omega) ht] at r1 r3
        refine ⟨M2, ?_, by rw [r2]; simp (disch := omega) only [ev_ck, ev_ci, ev_cv, ev_lt_, ↓reduceIte, ev_lens, ev_ix, ev_nz, ev_cl, ev_cll, ev_add, ev_addl, ev_ladd, ev_mul, ev_mull, ev_lmul, ev_sub, ev_subl, ev_lsub, ev_lt, ev_ltl, ev_llt, ev_le, ev_lel, ev_lle, ev_eq, ev_eql, ev_leq, ev_nm1, ev_nm5, ev_m1n, ev_neg1, ev_ltT, ev_ltF, ev_leT, ev_leF, ev_eqT, ev_eqF, ev_one0, ev_zero1, Nat.reduceAdd, Nat.reduceMul, Nat.reduceSub, ea_pI_eq, ev_pIn, ev_pIe, ea_pI_r, eq_self], r3, r4⟩
        rw [fX11_scan_185, by1, ev_ci, dg_y hb, ev_ci, if_pos ht, if_neg (by decide), ev_sub (Nat.le_add_right _ _), Nat.add_sub_cancel_left, if_pos (by rw [show (4 : Int32) = nI 4 from rfl, pn_leI (by omega) (by omega)]; omega)]
        unfold fX11_scan_227
        rw [show nI (q + j) + 1 = nI (q + j + 1) from nI_add (q + j) 1]
        exact r1
      · have w1 := hw (by omega)
        obtain ⟨M2, r1, r2, r3, r4⟩ := ih f (j + 1) (ea_pI M1 100 7 ((((10 : Int32) * (M1.1 100 7)) + nI (B (q + j))) - (48 : Int32))) (by omega) (by omega) (by omega) (hF.pI (by omega)) (fun h => by
          rw [ea_pI_eq, w1]
          show _ = nI (nvl B q j * 10 + (B (q + j) - 48))
          simp (disch := omega) only [ev_ck, ev_ci, ev_cv, ev_lt_, ↓reduceIte, ev_lens, ev_ix, ev_nz, ev_cl, ev_cll, ev_add, ev_addl, ev_ladd, ev_mul, ev_mull, ev_lmul, ev_sub, ev_subl, ev_lsub, ev_lt, ev_ltl, ev_llt, ev_le, ev_lel, ev_lle, ev_eq, ev_eql, ev_leq, ev_nm1, ev_nm5, ev_m1n, ev_neg1, ev_ltT, ev_ltF, ev_leT, ev_leF, ev_eqT, ev_eqF, ev_one0, ev_zero1, Nat.reduceAdd, Nat.reduceMul, Nat.reduceSub, ea_pI_eq, ev_pIn, ev_pIe, ea_pI_r, eq_self]
          rw [show 10 * nvl B q j + B (q + j) - 48 = nvl B q j * 10 + (B (q + j) - 48) by omega])
        rw [← Nat.add_assoc] at r1 r3
        rw [← rnr_yes (by omega) ht] at r1 r3
        refine ⟨M2, ?_, by rw [r2]; simp (disch := omega) only [ev_ck, ev_ci, ev_cv, ev_lt_, ↓reduceIte, ev_lens, ev_ix, ev_nz, ev_cl, ev_cll, ev_add, ev_addl, ev_ladd, ev_mul, ev_mull, ev_lmul, ev_sub, ev_subl, ev_lsub, ev_lt, ev_ltl, ev_llt, ev_le, ev_lel, ev_lle, ev_eq, ev_eql, ev_leq, ev_nm1, ev_nm5, ev_m1n, ev_neg1, ev_ltT, ev_ltF, ev_leT, ev_leF, ev_eqT, ev_eqF, ev_one0, ev_zero1, Nat.reduceAdd, Nat.reduceMul, Nat.reduceSub, ea_pI_eq, ev_pIn, ev_pIe, ea_pI_r, eq_self], r3, r4⟩
        rw [fX11_scan_185, by1, ev_ci, dg_y hb, ev_ci, if_pos ht, if_neg (by decide), ev_sub (Nat.le_add_right _ _), Nat.add_sub_cancel_left, if_neg (by rw [show (4 : Int32) = nI 4 from rfl, pn_leI (by omega) (by omega)]; omega), by1, ev_ci]
        unfold fX11_scan_227
        rw [show nI (q + j) + 1 = nI (q + j + 1) from nI_add (q + j) 1]
        exact r1
    · have e : rnr isDg B len (q + j) = q + j := rnr_no (fun _ => Bool.eq_false_iff.mpr ht)
      refine ⟨M1, ?_, rfl, fun h => by rw [e] at h ⊢; rw [show q + j - q = j by omega] at h ⊢; exact hw h, hF⟩
      rw [e, fX11_scan_185, by1, ev_ci, dg_y hb, ev_ci, if_neg ht, if_pos rfl]
/-- the model's token, as scanned from p on -/
def ms (k : Nat) : Nat := if k = 0 then 4 else if k = 4 then 0 else k
def TY (M : eM) (B : Nat → Nat) (len p : Nat) : Prop := M.1 100 6 = nI (tE B len p) ∧ M.1 100 5 = nI (tS B len p) ∧ M.1 100 3 = nI (ms (tK B len p)) ∧ (tK B len p = 2 → M.1 100 7 = nI (nvl B (tS B len p) (tE B len p - tS B len p))) ∧ (tK B len p = 1 → M.1 100 4 = enc id (fsx (eqw B (tS B len p) (tE B len p - tS B len p)) 10) ∧ (M.2.1 100 10).toInt = (wcd 32 B (tS B len p) (tE B len p - tS B len p) : Int))
theorem py_scan (hB : BY M B len) (h2 : M.1 100 2 = nI len) {p : Nat} (hp : p ≤ len) (h6 : M.1 100 6 = nI p) : ∃ M', fX11_scan M = some M' ∧ TY M' B len p ∧ FrS M M' := by
  have hl := hB.1
  have hq := rnr_b (t := isBk) (B := B) (len := len) (len - p) p rfl hp
  have es : tS B len p = rnr isBk B len p := rfl
  have start : fX11_scan M = fX11_scan_31 (nI (rnr isBk B len p)) M := by
    unfold fX11_scan fX11_scan_0
    rw [h6]
    exact py_skip hB h2 fX11_scan_31 (len - p) ea_N p rfl hp (by unfold ea_N; omega)
  generalize hqe : rnr isBk B len p = q at start hq es
  rw [start]
  have eE : tE B len p = if len ≤ q then q else if isLt (B q) = true then rnr isLt B len q else if isDg (B q) = true then rnr isDg B len q else q + 1 := by unfold tE; rw [es]
  have eK : tK B len p = if len ≤ q then 0 else if isLt (B q) = true then (if tE B len p - q ≤ 8 then 1 else 4) else if isDg (B q) = true then (if tE B len p - q ≤ 4 then 2 else 4) else if B q = 59 then 3 else 4 := by unfold tK; rw [es]
  unfold TY
  rw [es]
  have hF1 : FrS M (ea_pI M 100 5 (nI q)) := (FrS.rf M).pI (by omega)
  have hF2 : FrS M (ea_pI (ea_pI M 100 5 (nI q)) 100 4 (-1)) := hF1.pI (by omega)
  have by1 := py_byte (hB.fs hF1) ((hF1.1 100 2 (by omega)).trans h2) (k := q) (by omega)
  unfold fX11_scan_31
  rw [by1, ev_ci]
  by_cases hend : len ≤ q
  · rw [if_pos hend] at eE eK
    rw [eE, eK, if_neg (by omega : ¬ q < len), if_pos rfl]
    refine ⟨_, rfl, ⟨?_, ?_, ?_, fun h => by omega, fun h => by omega⟩, (hF2.pI (by omega)).pI (by omega)⟩
    · simp (disch := omega) only [ev_ck, ev_ci, ev_cv, ev_lt_, ↓reduceIte, ev_lens, ev_ix, ev_nz, ev_cl, ev_cll, ev_add, ev_addl, ev_ladd, ev_mul, ev_mull, ev_lmul, ev_sub, ev_subl, ev_lsub, ev_lt, ev_ltl, ev_llt, ev_le, ev_lel, ev_lle, ev_eq, ev_eql, ev_leq, ev_nm1, ev_nm5, ev_m1n, ev_neg1, ev_ltT, ev_ltF, ev_leT, ev_leF, ev_eqT, ev_eqF, ev_one0, ev_zero1, Nat.reduceAdd, Nat.reduceMul, Nat.reduceSub, ea_pI_eq, ev_pIn, ev_pIe, ea_pI_r, eq_self]
    · simp (disch := omega) only [ev_ck, ev_ci, ev_cv, ev_lt_, ↓reduceIte, ev_lens, ev_ix, ev_nz, ev_cl, ev_cll, ev_add, ev_addl, ev_ladd, ev_mul, ev_mull, ev_lmul, ev_sub, ev_subl, ev_lsub, ev_lt, ev_ltl, ev_llt, ev_le, ev_lel, ev_lle, ev_eq, ev_eql, ev_leq, ev_nm1, ev_nm5, ev_m1n, ev_neg1, ev_ltT, ev_ltF, ev_leT, ev_leF, ev_eqT, ev_eqF, ev_one0, ev_zero1, Nat.reduceAdd, Nat.reduceMul, Nat.reduceSub, ea_pI_eq, ev_pIn, ev_pIe, ea_pI_r, eq_self]
    · simp (disch := omega) only [ev_ck, ev_ci, ev_cv, ev_lt_, ↓reduceIte, ev_lens, ev_ix, ev_nz, ev_cl, ev_cll, ev_add, ev_addl, ev_ladd, ev_mul, ev_mull, ev_lmul, ev_sub, ev_subl, ev_lsub, ev_lt, ev_ltl, ev_llt, ev_le, ev_lel, ev_lle, ev_eq, ev_eql, ev_leq, ev_nm1, ev_nm5, ev_m1n, ev_neg1, ev_ltT, ev_ltF, ev_leT, ev_leF, ev_eqT, ev_eqF, ev_one0, ev_zero1, Nat.reduceAdd, Nat.reduceMul, Nat.reduceSub, ea_pI_eq, ev_pIn, ev_pIe, ea_pI_r, eq_self]
      rfl
  · rw [if_neg hend] at eE eK
    have hb := (hB.2 q (by omega)).1
    rw [if_pos (by omega : q < len), if_neg (ev_neg (by omega) (by decide)), sm_y hb, ev_ci]
    by_cases hlt : isLt (B q) = true
    · rw [if_pos hlt] at eE eK
      rw [if_pos hlt, if_neg (by decide)]
      obtain ⟨M2, w1, w2, w3, w4⟩ := py_word hB h2 (q := q) fX11_scan_130 (len - q) ea_N 0 (ea_pL (ea_pI (ea_pI M 100 5 (nI q)) 100 4 (-1)) 100 10 0) (by omega) (by omega) (by unfold ea_N; omega) hF2.pL (fun _ => ⟨by rw [ev_pL]; show (0 : Int64).toInt = ((0 : Nat) : Int); decide, Nat.le_refl _⟩)
      rw [Nat.add_zero] at w1 w3
      have hr := rnr_b (t := isLt) (B := B) (len := len) (len - q) q rfl (by omega)
      have hr2 : q + 1 ≤ rnr isLt B len q := by
        rw [rnr_yes (by omega) hlt]
        exact (rnr_b (t := isLt) (B := B) (len := len) (len - (q + 1)) (q + 1) rfl (by omega)).1
      rw [← eE] at w1 w3 hr hr2
      rw [w1]
      have w25 : M2.1 100 5 = nI q := by
        rw [w2]
        show (ea_pI (ea_pI M 100 5 (nI q)) 100 4 (-1)).1 100 5 = nI q
        simp (disch := omega) only [ev_ck, ev_ci, ev_cv, ev_lt_, ↓reduceIte, ev_lens, ev_ix, ev_nz, ev_cl, ev_cll, ev_add, ev_addl, ev_ladd, ev_mul, ev_mull, ev_lmul, ev_sub, ev_subl, ev_lsub, ev_lt, ev_ltl, ev_llt, ev_le, ev_lel, ev_lle, ev_eq, ev_eql, ev_leq, ev_nm1, ev_nm5, ev_m1n, ev_neg1, ev_ltT, ev_ltF, ev_leT, ev_leF, ev_eqT, ev_eqF, ev_one0, ev_zero1, Nat.reduceAdd, Nat.reduceMul, Nat.reduceSub, ea_pI_eq, ev_pIn, ev_pIe, ea_pI_r, eq_self]
      unfold fX11_scan_130
      rw [ev_sub hr.1]
      by_cases h8 : tE B len p - q ≤ 8
      · rw [if_pos h8] at eK
        rw [if_pos (by rw [show (8 : Int32) = nI 8 from rfl, pn_leI (by omega) (by omega)]; exact h8)]
        unfold fX11_scan_144 fX11_scan_270
        have w5 : FrS M (ea_pI M2 100 3 1) := w4.pI (by omega)
        rw [if_pos ea_pI_eq, ev_sub hr.1, py_key (hB.fs w5) ((w5.1 100 2 (by omega)).trans h2) (by omega) h8 (by omega), ev_ci]
        refine ⟨_, rfl, ⟨?_, ?_, ?_, fun h => by omega, fun _ => ⟨?_, ?_⟩⟩, (w5.pI (by omega)).pI (by omega)⟩
        · simp (disch := omega) only [ev_ck, ev_ci, ev_cv, ev_lt_, ↓reduceIte, ev_lens, ev_ix, ev_nz, ev_cl, ev_cll, ev_add, ev_addl, ev_ladd, ev_mul, ev_mull, ev_lmul, ev_sub, ev_subl, ev_lsub, ev_lt, ev_ltl, ev_llt, ev_le, ev_lel, ev_lle, ev_eq, ev_eql, ev_leq, ev_nm1, ev_nm5, ev_m1n, ev_neg1, ev_ltT, ev_ltF, ev_leT, ev_leF, ev_eqT, ev_eqF, ev_one0, ev_zero1, Nat.reduceAdd, Nat.reduceMul, Nat.reduceSub, ea_pI_eq, ev_pIn, ev_pIe, ea_pI_r, eq_self]
        · simp (disch := omega) only [ev_ck, ev_ci, ev_cv, ev_lt_, ↓reduceIte, ev_lens, ev_ix, ev_nz, ev_cl, ev_cll, ev_add, ev_addl, ev_ladd, ev_mul, ev_mull, ev_lmul, ev_sub, ev_subl, ev_lsub, ev_lt, ev_ltl, ev_llt, ev_le, ev_lel, ev_lle, ev_eq, ev_eql, ev_leq, ev_nm1, ev_nm5, ev_m1n, ev_neg1, ev_ltT, ev_ltF, ev_leT, ev_leF, ev_eqT, ev_eqF, ev_one0, ev_zero1, Nat.reduceAdd, Nat.reduceMul, Nat.reduceSub, ea_pI_eq, ev_pIn, ev_pIe, ea_pI_r, eq_self]
          exact w25
        · rw [eK]
          simp (disch := omega) only [ev_ck, ev_ci, ev_cv, ev_lt_, ↓reduceIte, ev_lens, ev_ix, ev_nz, ev_cl, ev_cll, ev_add, ev_addl, ev_ladd, ev_mul, ev_mull, ev_lmul, ev_sub, ev_subl, ev_lsub, ev_lt, ev_ltl, ev_llt, ev_le, ev_lel, ev_lle, ev_eq, ev_eql, ev_leq, ev_nm1, ev_nm5, ev_m1n, ev_neg1, ev_ltT, ev_ltF, ev_leT, ev_leF, ev_eqT, ev_eqF, ev_one0, ev_zero1, Nat.reduceAdd, Nat.reduceMul, Nat.reduceSub, ea_pI_eq, ev_pIn, ev_pIe, ea_pI_r, eq_self]
          rfl
        · simp (disch := omega) only [ev_ck, ev_ci, ev_cv, ev_lt_, ↓reduceIte, ev_lens, ev_ix, ev_nz, ev_cl, ev_cll, ev_add, ev_addl, ev_ladd, ev_mul, ev_mull, ev_lmul, ev_sub, ev_subl, ev_lsub, ev_lt, ev_ltl, ev_llt, ev_le, ev_lel, ev_lle, ev_eq, ev_eql, ev_leq, ev_nm1, ev_nm5, ev_m1n, ev_neg1, ev_ltT, ev_ltF, ev_leT, ev_leF, ev_eqT, ev_eqF, ev_one0, ev_zero1, Nat.reduceAdd, Nat.reduceMul, Nat.reduceSub, ea_pI_eq, ev_pIn, ev_pIe, ea_pI_r, eq_self]
        · exact w3 h8
      · rw [if_neg h8] at eK
        rw [if_neg (by rw [show (8 : Int32) = nI 8 from rfl, pn_leI (by omega) (by omega)]; exact h8)]
        unfold fX11_scan_144 fX11_scan_270
        have w5 : FrS M (ea_pI M2 100 3 0) := w4.pI (by omega)
        rw [if_neg (by rw [ea_pI_eq]; decide)]
        refine ⟨_, rfl, ⟨?_, ?_, ?_, fun h => by omega, fun h => by omega⟩, w5.pI (by omega)⟩
        · simp (disch := omega) only [ev_ck, ev_ci, ev_cv, ev_lt_, ↓reduceIte, ev_lens, ev_ix, ev_nz, ev_cl, ev_cll, ev_add, ev_addl, ev_ladd, ev_mul, ev_mull, ev_lmul, ev_sub, ev_subl, ev_lsub, ev_lt, ev_ltl, ev_llt, ev_le, ev_lel, ev_lle, ev_eq, ev_eql, ev_leq, ev_nm1, ev_nm5, ev_m1n, ev_neg1, ev_ltT, ev_ltF, ev_leT, ev_leF, ev_eqT, ev_eqF, ev_one0, ev_zero1, Nat.reduceAdd, Nat.reduceMul, Nat.reduceSub, ea_pI_eq, ev_pIn, ev_pIe, ea_pI_r, eq_self]
        · simp (disch := omega) only [ev_ck, ev_ci, ev_cv, ev_lt_, ↓reduceIte, ev_lens, ev_ix, ev_nz, ev_cl, ev_cll, ev_add, ev_addl, ev_ladd, ev_mul, ev_mull, ev_lmul, ev_sub, ev_subl, ev_lsub, ev_lt, ev_ltl, ev_llt, ev_le, ev_lel, ev_lle, ev_eq, ev_eql, ev_leq, ev_nm1, ev_nm5, ev_m1n, ev_neg1, ev_ltT, ev_ltF, ev_leT, ev_leF, ev_eqT, ev_eqF, ev_one0, ev_zero1, Nat.reduceAdd, Nat.reduceMul, Nat.reduceSub, ea_pI_eq, ev_pIn, ev_pIe, ea_pI_r, eq_self]
          exact w25
        · rw [eK]
          simp (disch := omega) only [ev_ck, ev_ci, ev_cv, ev_lt_, ↓reduceIte, ev_lens, ev_ix, ev_nz, ev_cl, ev_cll, ev_add, ev_addl, ev_ladd, ev_mul, ev_mull, ev_lmul, ev_sub, ev_subl, ev_lsub, ev_lt, ev_ltl, ev_llt, ev_le, ev_lel, ev_lle, ev_eq, ev_eql, ev_leq, ev_nm1, ev_nm5, ev_m1n, ev_neg1, ev_ltT, ev_ltF, ev_leT, ev_leF, ev_eqT, ev_eqF, ev_one0, ev_zero1, Nat.reduceAdd, Nat.reduceMul, Nat.reduceSub, ea_pI_eq, ev_pIn, ev_pIe, ea_pI_r, eq_self]
          rfl
    · rw [if_neg hlt] at eE eK
      rw [if_neg hlt, if_pos rfl, dg_y hb, ev_ci]
      by_cases hdg : isDg (B q) = true
      · rw [if_pos hdg] at eE eK
        have hb2 := isDg_t.mp hdg
        rw [if_pos hdg, if_neg (by decide)]
        obtain ⟨M2, w1, w2, w3, w4⟩ := py_numb hB h2 (q := q) fX11_scan_236 (len - (q + 1)) ea_N 1 (ea_pI (ea_pI (ea_pI M 100 5 (nI q)) 100 4 (-1)) 100 7 (nI (B q) - 48)) (by omega) (by omega) (by unfold ea_N; omega) (hF2.pI (by omega)) (fun _ => by
          rw [ea_pI_eq]
          show _ = nI (nvl B q 0 * 10 + (B (q + 0) - 48))
          rw [Nat.add_zero, show nvl B q 0 = 0 from rfl]
          simp (disch := omega) only [ev_ck, ev_ci, ev_cv, ev_lt_, ↓reduceIte, ev_lens, ev_ix, ev_nz, ev_cl, ev_cll, ev_add, ev_addl, ev_ladd, ev_mul, ev_mull, ev_lmul, ev_sub, ev_subl, ev_lsub, ev_lt, ev_ltl, ev_llt, ev_le, ev_lel, ev_lle, ev_eq, ev_eql, ev_leq, ev_nm1, ev_nm5, ev_m1n, ev_neg1, ev_ltT, ev_ltF, ev_leT, ev_leF, ev_eqT, ev_eqF, ev_one0, ev_zero1, Nat.reduceAdd, Nat.reduceMul, Nat.reduceSub, ea_pI_eq, ev_pIn, ev_pIe, ea_pI_r, eq_self])
        have hr := rnr_b (t := isDg) (B := B) (len := len) (len - q) q rfl (by omega)
        rw [← rnr_yes (by omega) hdg] at w1 w3
        rw [← eE] at w1 w3 hr
        rw [show nI q + 1 = nI (q + 1) from nI_add q 1, w1]
        have w25 : M2.1 100 5 = nI q := by
          rw [w2]
          simp (disch := omega) only [ev_ck, ev_ci, ev_cv, ev_lt_, ↓reduceIte, ev_lens, ev_ix, ev_nz, ev_cl, ev_cll, ev_add, ev_addl, ev_ladd, ev_mul, ev_mull, ev_lmul, ev_sub, ev_subl, ev_lsub, ev_lt, ev_ltl, ev_llt, ev_le, ev_lel, ev_lle, ev_eq, ev_eql, ev_leq, ev_nm1, ev_nm5, ev_m1n, ev_neg1, ev_ltT, ev_ltF, ev_leT, ev_leF, ev_eqT, ev_eqF, ev_one0, ev_zero1, Nat.reduceAdd, Nat.reduceMul, Nat.reduceSub, ea_pI_eq, ev_pIn, ev_pIe, ea_pI_r, eq_self]
        unfold fX11_scan_236 fX11_scan_249 fX11_scan_270
        rw [ev_sub hr.1]
        by_cases h8 : tE B len p - q ≤ 4
        · rw [if_pos h8] at eK
          rw [if_pos (by rw [show (4 : Int32) = nI 4 from rfl, pn_leI (by omega) (by omega)]; exact h8)]
          refine ⟨_, rfl, ⟨?_, ?_, ?_, fun _ => ?_, fun h => by omega⟩, (w4.pI (by omega)).pI (by omega)⟩
          · simp (disch := omega) only [ev_ck, ev_ci, ev_cv, ev_lt_, ↓reduceIte, ev_lens, ev_ix, ev_nz, ev_cl, ev_cll, ev_add, ev_addl, ev_ladd, ev_mul, ev_mull, ev_lmul, ev_sub, ev_subl, ev_lsub, ev_lt, ev_ltl, ev_llt, ev_le, ev_lel, ev_lle, ev_eq, ev_eql, ev_leq, ev_nm1, ev_nm5, ev_m1n, ev_neg1, ev_ltT, ev_ltF, ev_leT, ev_leF, ev_eqT, ev_eqF, ev_one0, ev_zero1, Nat.reduceAdd, Nat.reduceMul, Nat.reduceSub, ea_pI_eq, ev_pIn, ev_pIe, ea_pI_r, eq_self]
          · simp (disch := omega) only [ev_ck, ev_ci, ev_cv, ev_lt_, ↓reduceIte, ev_lens, ev_ix, ev_nz, ev_cl, ev_cll, ev_add, ev_addl, ev_ladd, ev_mul, ev_mull, ev_lmul, ev_sub, ev_subl, ev_lsub, ev_lt, ev_ltl, ev_llt, ev_le, ev_lel, ev_lle, ev_eq, ev_eql, ev_leq, ev_nm1, ev_nm5, ev_m1n, ev_neg1, ev_ltT, ev_ltF, ev_leT, ev_leF, ev_eqT, ev_eqF, ev_one0, ev_zero1, Nat.reduceAdd, Nat.reduceMul, Nat.reduceSub, ea_pI_eq, ev_pIn, ev_pIe, ea_pI_r, eq_self]
            exact w25
          · rw [eK]
            simp (disch := omega) only [ev_ck, ev_ci, ev_cv, ev_lt_, ↓reduceIte, ev_lens, ev_ix, ev_nz, ev_cl, ev_cll, ev_add, ev_addl, ev_ladd, ev_mul, ev_mull, ev_lmul, ev_sub, ev_subl, ev_lsub, ev_lt, ev_ltl, ev_llt, ev_le, ev_lel, ev_lle, ev_eq, ev_eql, ev_leq, ev_nm1, ev_nm5, ev_m1n, ev_neg1, ev_ltT, ev_ltF, ev_leT, ev_leF, ev_eqT, ev_eqF, ev_one0, ev_zero1, Nat.reduceAdd, Nat.reduceMul, Nat.reduceSub, ea_pI_eq, ev_pIn, ev_pIe, ea_pI_r, eq_self]
            rfl
          · simp (disch := omega) only [ev_ck, ev_ci, ev_cv, ev_lt_, ↓reduceIte, ev_lens, ev_ix, ev_nz, ev_cl, ev_cll, ev_add, ev_addl, ev_ladd, ev_mul, ev_mull, ev_lmul, ev_sub, ev_subl, ev_lsub, ev_lt, ev_ltl, ev_llt, ev_le, ev_lel, ev_lle, ev_eq, ev_eql, ev_leq, ev_nm1, ev_nm5, ev_m1n, ev_neg1, ev_ltT, ev_ltF, ev_leT, ev_leF, ev_eqT, ev_eqF, ev_one0, ev_zero1, Nat.reduceAdd, Nat.reduceMul, Nat.reduceSub, ea_pI_eq, ev_pIn, ev_pIe, ea_pI_r, eq_self]
            exact w3 h8
        · rw [if_neg h8] at eK
          rw [if_neg (by rw [show (4 : Int32) = nI 4 from rfl, pn_leI (by omega) (by omega)]; exact h8)]
          refine ⟨_, rfl, ⟨?_, ?_, ?_, fun h => by omega, fun h => by omega⟩, (w4.pI (by omega)).pI (by omega)⟩
          · simp (disch := omega) only [ev_ck, ev_ci, ev_cv, ev_lt_, ↓reduceIte, ev_lens, ev_ix, ev_nz, ev_cl, ev_cll, ev_add, ev_addl, ev_ladd, ev_mul, ev_mull, ev_lmul, ev_sub, ev_subl, ev_lsub, ev_lt, ev_ltl, ev_llt, ev_le, ev_lel, ev_lle, ev_eq, ev_eql, ev_leq, ev_nm1, ev_nm5, ev_m1n, ev_neg1, ev_ltT, ev_ltF, ev_leT, ev_leF, ev_eqT, ev_eqF, ev_one0, ev_zero1, Nat.reduceAdd, Nat.reduceMul, Nat.reduceSub, ea_pI_eq, ev_pIn, ev_pIe, ea_pI_r, eq_self]
          · simp (disch := omega) only [ev_ck, ev_ci, ev_cv, ev_lt_, ↓reduceIte, ev_lens, ev_ix, ev_nz, ev_cl, ev_cll, ev_add, ev_addl, ev_ladd, ev_mul, ev_mull, ev_lmul, ev_sub, ev_subl, ev_lsub, ev_lt, ev_ltl, ev_llt, ev_le, ev_lel, ev_lle, ev_eq, ev_eql, ev_leq, ev_nm1, ev_nm5, ev_m1n, ev_neg1, ev_ltT, ev_ltF, ev_leT, ev_leF, ev_eqT, ev_eqF, ev_one0, ev_zero1, Nat.reduceAdd, Nat.reduceMul, Nat.reduceSub, ea_pI_eq, ev_pIn, ev_pIe, ea_pI_r, eq_self]
            exact w25
          · rw [eK]
            simp (disch := omega) only [ev_ck, ev_ci, ev_cv, ev_lt_, ↓reduceIte, ev_lens, ev_ix, ev_nz, ev_cl, ev_cll, ev_add, ev_addl, ev_ladd, ev_mul, ev_mull, ev_lmul, ev_sub, ev_subl, ev_lsub, ev_lt, ev_ltl, ev_llt, ev_le, ev_lel, ev_lle, ev_eq, ev_eql, ev_leq, ev_nm1, ev_nm5, ev_m1n, ev_neg1, ev_ltT, ev_ltF, ev_leT, ev_leF, ev_eqT, ev_eqF, ev_one0, ev_zero1, Nat.reduceAdd, Nat.reduceMul, Nat.reduceSub, ea_pI_eq, ev_pIn, ev_pIe, ea_pI_r, eq_self]
            rfl
      · rw [if_neg hdg] at eE eK
        rw [if_neg hdg, if_pos rfl]
        unfold fX11_scan_267 fX11_scan_270
        rw [show nI q + 1 = nI (q + 1) from nI_add q 1]
        by_cases h59 : B q = 59
        · rw [if_pos h59] at eK
          rw [if_pos (by rw [h59]; rfl)]
          refine ⟨_, rfl, ⟨?_, ?_, ?_, fun h => by omega, fun h => by omega⟩, (hF2.pI (by omega)).pI (by omega)⟩
          · rw [eE]
            simp (disch := omega) only [ev_ck, ev_ci, ev_cv, ev_lt_, ↓reduceIte, ev_lens, ev_ix, ev_nz, ev_cl, ev_cll, ev_add, ev_addl, ev_ladd, ev_mul, ev_mull, ev_lmul, ev_sub, ev_subl, ev_lsub, ev_lt, ev_ltl, ev_llt, ev_le, ev_lel, ev_lle, ev_eq, ev_eql, ev_leq, ev_nm1, ev_nm5, ev_m1n, ev_neg1, ev_ltT, ev_ltF, ev_leT, ev_leF, ev_eqT, ev_eqF, ev_one0, ev_zero1, Nat.reduceAdd, Nat.reduceMul, Nat.reduceSub, ea_pI_eq, ev_pIn, ev_pIe, ea_pI_r, eq_self]
          · simp (disch := omega) only [ev_ck, ev_ci, ev_cv, ev_lt_, ↓reduceIte, ev_lens, ev_ix, ev_nz, ev_cl, ev_cll, ev_add, ev_addl, ev_ladd, ev_mul, ev_mull, ev_lmul, ev_sub, ev_subl, ev_lsub, ev_lt, ev_ltl, ev_llt, ev_le, ev_lel, ev_lle, ev_eq, ev_eql, ev_leq, ev_nm1, ev_nm5, ev_m1n, ev_neg1, ev_ltT, ev_ltF, ev_leT, ev_leF, ev_eqT, ev_eqF, ev_one0, ev_zero1, Nat.reduceAdd, Nat.reduceMul, Nat.reduceSub, ea_pI_eq, ev_pIn, ev_pIe, ea_pI_r, eq_self]
          · rw [eK]
            simp (disch := omega) only [ev_ck, ev_ci, ev_cv, ev_lt_, ↓reduceIte, ev_lens, ev_ix, ev_nz, ev_cl, ev_cll, ev_add, ev_addl, ev_ladd, ev_mul, ev_mull, ev_lmul, ev_sub, ev_subl, ev_lsub, ev_lt, ev_ltl, ev_llt, ev_le, ev_lel, ev_lle, ev_eq, ev_eql, ev_leq, ev_nm1, ev_nm5, ev_m1n, ev_neg1, ev_ltT, ev_ltF, ev_leT, ev_leF, ev_eqT, ev_eqF, ev_one0, ev_zero1, Nat.reduceAdd, Nat.reduceMul, Nat.reduceSub, ea_pI_eq, ev_pIn, ev_pIe, ea_pI_r, eq_self]
            rfl
        · rw [if_neg h59] at eK
          rw [if_neg (by rw [show (59 : Int32) = nI 59 from rfl, pn_eqI (by omega) (by omega)]; exact h59)]
          refine ⟨_, rfl, ⟨?_, ?_, ?_, fun h => by omega, fun h => by omega⟩, (hF2.pI (by omega)).pI (by omega)⟩
          · rw [eE]
            simp (disch := omega) only [ev_ck, ev_ci, ev_cv, ev_lt_, ↓reduceIte, ev_lens, ev_ix, ev_nz, ev_cl, ev_cll, ev_add, ev_addl, ev_ladd, ev_mul, ev_mull, ev_lmul, ev_sub, ev_subl, ev_lsub, ev_lt, ev_ltl, ev_llt, ev_le, ev_lel, ev_lle, ev_eq, ev_eql, ev_leq, ev_nm1, ev_nm5, ev_m1n, ev_neg1, ev_ltT, ev_ltF, ev_leT, ev_leF, ev_eqT, ev_eqF, ev_one0, ev_zero1, Nat.reduceAdd, Nat.reduceMul, Nat.reduceSub, ea_pI_eq, ev_pIn, ev_pIe, ea_pI_r, eq_self]
          · simp (disch := omega) only [ev_ck, ev_ci, ev_cv, ev_lt_, ↓reduceIte, ev_lens, ev_ix, ev_nz, ev_cl, ev_cll, ev_add, ev_addl, ev_ladd, ev_mul, ev_mull, ev_lmul, ev_sub, ev_subl, ev_lsub, ev_lt, ev_ltl, ev_llt, ev_le, ev_lel, ev_lle, ev_eq, ev_eql, ev_leq, ev_nm1, ev_nm5, ev_m1n, ev_neg1, ev_ltT, ev_ltF, ev_leT, ev_leF, ev_eqT, ev_eqF, ev_one0, ev_zero1, Nat.reduceAdd, Nat.reduceMul, Nat.reduceSub, ea_pI_eq, ev_pIn, ev_pIe, ea_pI_r, eq_self]
          · rw [eK]
            simp (disch := omega) only [ev_ck, ev_ci, ev_cv, ev_lt_, ↓reduceIte, ev_lens, ev_ix, ev_nz, ev_cl, ev_cll, ev_add, ev_addl, ev_ladd, ev_mul, ev_mull, ev_lmul, ev_sub, ev_subl, ev_lsub, ev_lt, ev_ltl, ev_llt, ev_le, ev_lel, ev_lle, ev_eq, ev_eql, ev_leq, ev_nm1, ev_nm5, ev_m1n, ev_neg1, ev_ltT, ev_ltF, ev_leT, ev_leF, ev_eqT, ev_eqF, ev_one0, ev_zero1, Nat.reduceAdd, Nat.reduceMul, Nat.reduceSub, ea_pI_eq, ev_pIn, ev_pIe, ea_pI_r, eq_self]
            rfl
end SC
