section AD
variable {M : eM} {B : Nat → Nat} {len : Nat}
/-- the frame of the class's reader -/
def FrA (M M' : eM) : Prop := (∀ c k, (c ≠ 3 ∨ (k ≠ 4 ∧ k ≠ 6 ∧ k ≠ 7 ∧ k ≠ 8)) → M'.1 c k = M.1 c k) ∧ (∀ c k, (c ≠ 3 ∨ k ≠ 9) → M'.2.1 c k = M.2.1 c k) ∧ M'.2.2 = M.2.2
theorem FrA.rf (M : eM) : FrA M M := ⟨fun _ _ _ => rfl, fun _ _ _ => rfl, rfl⟩
theorem FrA.trans {A B D : eM} (h : FrA A B) (g : FrA B D) : FrA A D := ⟨fun c k p => (g.1 c k p).trans (h.1 c k p), fun c k p => (g.2.1 c k p).trans (h.2.1 c k p), g.2.2.trans h.2.2⟩
theorem FrA.pI {M M1 : eM} (h : FrA M M1) {k : Nat} {x : Int32} (hk : k = 4 ∨ k = 6 ∨ k = 7 ∨ k = 8) : FrA M (ea_pI M1 3 k x) := ⟨fun c j p => by rw [ea_pI_ne (by omega)]; exact h.1 c j p, h.2.1, h.2.2⟩
theorem ev_pLn {M : eM} {c k a j : Nat} {x : Int64} (h : a ≠ c ∨ j ≠ k) : (ea_pL M c k x).2.1 a j = M.2.1 a j := by
  show (if a = c then vp_updL (M.2.1 c) k x else M.2.1 a) j = M.2.1 a j
  by_cases e : a = c
  · rw [if_pos e, e]
    unfold vp_updL
    rw [if_neg (by omega)]
  · rw [if_neg e]
theorem FrA.pL {M M1 : eM} (h : FrA M M1) {x : Int64} : FrA M (ea_pL M1 3 9 x) := ⟨h.1, fun c j p => by rw [ev_pLn p]; exact h.2.1 c j p, h.2.2⟩
theorem BY.fr {M M' : eM} (h : BY M B len) (f : FrA M M') : BY M' B len := ⟨h.1, fun k hk => by
  have e1 : M'.1 101 k = M.1 101 k := f.1 _ _ (by omega)
  have e2 : M'.1 2 k = M.1 2 k := f.1 _ _ (by omega)
  rw [e1, e2]
  exact h.2 k hk⟩
/-- blanks passed over -/
theorem px_skip (hB : BY M B len) (k49 : Int32 → eM → Option eM) : ∀ (d f p : Nat) (M1 : eM), len - p = d → p ≤ len → d < f → FrA M M1 → M1.1 3 4 = nI p → ∃ M2, fX2_advance_16 k49 f (nI len) M1 = k49 (nI len) M2 ∧ M2.1 3 4 = nI (rnr isBk B len p) ∧ FrA M M2 := by
  have hl := hB.1
  intro d
  induction d with
  | zero =>
    intro f p M1 hd hp hf hF h4
    obtain ⟨f, rfl⟩ : ∃ f', f = f' + 1 := ⟨f - 1, by omega⟩
    refine ⟨M1, ?_, by rw [rnr_no (fun h => by omega)]; exact h4, hF⟩
    simp (disch := omega) only [ev_ck, ev_ci, ev_cv, ev_lt_, ↓reduceIte, ev_lens, ev_ix, ev_nz, ev_cl, ev_cll, ev_add, ev_addl, ev_ladd, ev_mul, ev_mull, ev_lmul, ev_sub, ev_subl, ev_lsub, ev_lt, ev_ltl, ev_llt, ev_le, ev_lel, ev_lle, ev_eq, ev_eql, ev_leq, ev_nm1, ev_nm5, ev_m1n, ev_neg1, ev_ltT, ev_ltF, ev_leT, ev_leF, ev_eqT, ev_eqF, ev_one0, ev_zero1, Nat.reduceAdd, Nat.reduceMul, Nat.reduceSub, ea_pI_eq, ev_pIn, ev_pIe, ea_pI_r, eq_self, fX2_advance_16, h4]
  | succ d ih =>
    intro f p M1 hd hp hf hF h4
    obtain ⟨f, rfl⟩ : ∃ f', f = f' + 1 := ⟨f - 1, by omega⟩
    have bk := bk_x (hB.fr hF) (k := p) (by omega) M1
    by_cases ht : isBk (B p) = true
    · obtain ⟨M2, r1, r2⟩ := ih f (p + 1) (ea_pI M1 3 4 (nI (p + 1))) (by omega) (by omega) (by omega) (hF.pI (by omega)) (by rw [ea_pI_eq])
      rw [← rnr_yes (by omega) ht] at r2
      refine ⟨M2, ?_, r2⟩
      rw [ht] at bk
      simp (disch := omega) only [ev_ck, ev_ci, ev_cv, ev_lt_, ↓reduceIte, ev_lens, ev_ix, ev_nz, ev_cl, ev_cll, ev_add, ev_addl, ev_ladd, ev_mul, ev_mull, ev_lmul, ev_sub, ev_subl, ev_lsub, ev_lt, ev_ltl, ev_llt, ev_le, ev_lel, ev_lle, ev_eq, ev_eql, ev_leq, ev_nm1, ev_nm5, ev_m1n, ev_neg1, ev_ltT, ev_ltF, ev_leT, ev_leF, ev_eqT, ev_eqF, ev_one0, ev_zero1, Nat.reduceAdd, Nat.reduceMul, Nat.reduceSub, ea_pI_eq, ev_pIn, ev_pIe, ea_pI_r, eq_self, fX2_advance_16, h4, bk]
      exact r1
    · have ht := Bool.eq_false_iff.mpr ht
      refine ⟨M1, ?_, by rw [rnr_no (fun _ => ht)]; exact h4, hF⟩
      rw [ht] at bk
      simp (disch := omega) only [ev_ck, ev_ci, ev_cv, ev_lt_, ↓reduceIte, ev_lens, ev_ix, ev_nz, ev_cl, ev_cll, ev_add, ev_addl, ev_ladd, ev_mul, ev_mull, ev_lmul, ev_sub, ev_subl, ev_lsub, ev_lt, ev_ltl, ev_llt, ev_le, ev_lel, ev_lle, ev_eq, ev_eql, ev_leq, ev_nm1, ev_nm5, ev_m1n, ev_neg1, ev_ltT, ev_ltF, ev_leT, ev_leF, ev_eqT, ev_eqF, ev_one0, ev_zero1, Nat.reduceAdd, Nat.reduceMul, Nat.reduceSub, ea_pI_eq, ev_pIn, ev_pIe, ea_pI_r, eq_self, fX2_advance_16, h4, bk, Bool.false_eq_true]
/-- a WORD read -/
theorem px_word (hB : BY M B len) {q : Nat} (k148 : eM → Option eM) : ∀ (d f j : Nat) (M1 : eM), len - (q + j) = d → q + j ≤ len → d < f → FrA M M1 → M1.1 3 4 = nI (q + j) → (j ≤ 8 → (M1.2.1 3 9).toInt = (wcd 27 B q j : Int) ∧ wcd 27 B q j + 1 ≤ 27 ^ j) → ∃ M2, fX2_advance_90 k148 f (nI len) M1 = k148 M2 ∧ M2.1 3 4 = nI (rnr isLt B len (q + j)) ∧ M2.1 3 7 = M1.1 3 7 ∧ (rnr isLt B len (q + j) - q ≤ 8 → (M2.2.1 3 9).toInt = (wcd 27 B q (rnr isLt B len (q + j) - q) : Int)) ∧ FrA M M2 := by
  have hl := hB.1
  intro d
  induction d with
  | zero =>
    intro f j M1 hd hp hf hF h4 hw
    obtain ⟨f, rfl⟩ : ∃ f', f = f' + 1 := ⟨f - 1, by omega⟩
    have e : rnr isLt B len (q + j) = q + j := rnr_no (fun h => by omega)
    refine ⟨M1, ?_, by rw [e]; exact h4, rfl, fun h => by rw [e] at h ⊢; rw [show q + j - q = j by omega] at h ⊢; exact (hw h).1, hF⟩
    simp (disch := omega) only [ev_ck, ev_ci, ev_cv, ev_lt_, ↓reduceIte, ev_lens, ev_ix, ev_nz, ev_cl, ev_cll, ev_add, ev_addl, ev_ladd, ev_mul, ev_mull, ev_lmul, ev_sub, ev_subl, ev_lsub, ev_lt, ev_ltl, ev_llt, ev_le, ev_lel, ev_lle, ev_eq, ev_eql, ev_leq, ev_nm1, ev_nm5, ev_m1n, ev_neg1, ev_ltT, ev_ltF, ev_leT, ev_leF, ev_eqT, ev_eqF, ev_one0, ev_zero1, Nat.reduceAdd, Nat.reduceMul, Nat.reduceSub, ea_pI_eq, ev_pIn, ev_pIe, ea_pI_r, eq_self, fX2_advance_90, h4]
  | succ d ih =>
    intro f j M1 hd hp hf hF h4 hw
    obtain ⟨f, rfl⟩ : ∃ f', f = f' + 1 := ⟨f - 1, by omega⟩
    have lt := lt_x (hB.fr hF) (k := q + j) (by omega) M1
    by_cases ht : isLt (B (q + j)) = true
    · have hb : 97 ≤ B (q + j) ∧ B (q + j) ≤ 122 := by
        unfold isLt at ht
        rw [Bool.and_eq_true, decide_eq_true_eq, decide_eq_true_eq] at ht
        exact ht
      have v2 : M1.1 2 (q + j) = nI (B (q + j)) := ((hB.fr hF).2 (q + j) (by omega)).2.2.1 (by omega)
      obtain ⟨M2, r1, r2, r3, r4⟩ := ih f (j + 1) (ea_pI (ea_pL M1 3 9 (M1.2.1 3 9 * (27 : Int64) + (nI (B (q + j) - 96)).toInt64)) 3 4 (nI (q + j + 1))) (by omega) (by omega) (by omega) ((hF.pL).pI (by omega)) (by rw [ea_pI_eq]; rfl) (fun h8 => by
        obtain ⟨w1, w2⟩ := hw (by omega)
        have c27 : (27 : Int64).toInt = 27 := by decide
        have cb : ((nI (B (q + j) - 96)).toInt64).toInt = ((B (q + j) - 96 : Nat) : Int) := by rw [Int32.toInt_toInt64, nI_toInt (by omega)]
        have pw : (27 : Nat) ^ j ≤ 27 ^ 7 := Nat.pow_le_pow_right (by decide) (by omega)
        have e7 : (27 : Nat) ^ 7 = 10460353203 := by decide
        have m1 := pl_mul w1 c27 (by omega) (by omega)
        have a1 := pl_add m1 cb (by omega) (by omega)
        refine ⟨?_, ?_⟩
        · show ((ea_pL M1 3 9 (M1.2.1 3 9 * (27 : Int64) + (nI (B (q + j) - 96)).toInt64)).2.1 3 9).toInt = _
          rw [ev_pL, a1]
          show _ = ((wcd 27 B q j * 27 + (B (q + j) - 96) : Nat) : Int)
          omega
        · show wcd 27 B q j * 27 + (B (q + j) - 96) + 1 ≤ 27 ^ (j + 1)
          rw [Nat.pow_succ]
          omega)
      rw [← Nat.add_assoc] at r2 r4
      rw [← rnr_yes (by omega) ht] at r2 r4
      refine ⟨M2, ?_, r2, by rw [r3]; simp (disch := omega) only [ev_ck, ev_ci, ev_cv, ev_lt_, ↓reduceIte, ev_lens, ev_ix, ev_nz, ev_cl, ev_cll, ev_add, ev_addl, ev_ladd, ev_mul, ev_mull, ev_lmul, ev_sub, ev_subl, ev_lsub, ev_lt, ev_ltl, ev_llt, ev_le, ev_lel, ev_lle, ev_eq, ev_eql, ev_leq, ev_nm1, ev_nm5, ev_m1n, ev_neg1, ev_ltT, ev_ltF, ev_leT, ev_leF, ev_eqT, ev_eqF, ev_one0, ev_zero1, Nat.reduceAdd, Nat.reduceMul, Nat.reduceSub, ea_pI_eq, ev_pIn, ev_pIe, ea_pI_r, eq_self]; rfl, r4⟩
      rw [ht, v2] at lt
      have eb : nI (B (q + j)) - 97 + 1 = nI (B (q + j) - 96) := by
        rw [show nI (B (q + j)) - 97 = nI (B (q + j) - 97) from ev_sub (b := 97) (by omega), show nI (B (q + j) - 97) + 1 = nI (B (q + j) - 97 + 1) from nI_add _ 1, show B (q + j) - 97 + 1 = B (q + j) - 96 by omega]
      have e34 : ∀ x, (ea_pL M1 3 9 x).1 3 4 = nI (q + j) := fun x => h4
      rw [fX2_advance_90]
      simp (disch := omega) only [ev_ck, ev_ci, ev_cv, ev_lt_, ↓reduceIte, ev_lens, ev_ix, ev_nz, ev_cl, ev_cll, ev_add, ev_addl, ev_ladd, ev_mul, ev_mull, ev_lmul, ev_sub, ev_lsub, ev_lt, ev_ltl, ev_llt, ev_le, ev_lel, ev_lle, ev_eq, ev_eql, ev_leq, ev_nm1, ev_nm5, ev_m1n, ev_neg1, ev_ltT, ev_ltF, ev_leT, ev_leF, ev_eqT, ev_eqF, ev_one0, ev_zero1, Nat.reduceAdd, Nat.reduceMul, Nat.reduceSub, ea_pI_eq, ev_pIn, ev_pIe, ea_pI_r, eq_self, h4, v2, lt, e34]
      rw [eb]
      exact r1
    · have ht := Bool.eq_false_iff.mpr ht
      have e : rnr isLt B len (q + j) = q + j := rnr_no (fun _ => ht)
      refine ⟨M1, ?_, by rw [e]; exact h4, rfl, fun h => by rw [e] at h ⊢; rw [show q + j - q = j by omega] at h ⊢; exact (hw h).1, hF⟩
      rw [ht] at lt
      simp (disch := omega) only [ev_ck, ev_ci, ev_cv, ev_lt_, ↓reduceIte, ev_lens, ev_ix, ev_nz, ev_cl, ev_cll, ev_add, ev_addl, ev_ladd, ev_mul, ev_mull, ev_lmul, ev_sub, ev_subl, ev_lsub, ev_lt, ev_ltl, ev_llt, ev_le, ev_lel, ev_lle, ev_eq, ev_eql, ev_leq, ev_nm1, ev_nm5, ev_m1n, ev_neg1, ev_ltT, ev_ltF, ev_leT, ev_leF, ev_eqT, ev_eqF, ev_one0, ev_zero1, Nat.reduceAdd, Nat.reduceMul, Nat.reduceSub, ea_pI_eq, ev_pIn, ev_pIe, ea_pI_r, eq_self, fX2_advance_90, h4, lt, Bool.false_eq_true]
/-- a number read -/
theorem px_numb (hB : BY M B len) {q : Nat} (k245 : eM → Option eM) : ∀ (d f j : Nat) (M1 : eM), len - (q + j) = d → q + j ≤ len → d < f → FrA M M1 → M1.1 3 4 = nI (q + j) → (j ≤ 4 → M1.1 3 8 = nI (nvl B q j) ∧ nvl B q j + 1 ≤ 10 ^ j) → ∃ M2, fX2_advance_191 k245 f (nI len) M1 = k245 M2 ∧ M2.1 3 4 = nI (rnr isDg B len (q + j)) ∧ M2.1 3 7 = M1.1 3 7 ∧ (rnr isDg B len (q + j) - q ≤ 4 → M2.1 3 8 = nI (nvl B q (rnr isDg B len (q + j) - q))) ∧ FrA M M2 := by
  have hl := hB.1
  intro d
  induction d with
  | zero =>
    intro f j M1 hd hp hf hF h4 hw
    obtain ⟨f, rfl⟩ : ∃ f', f = f' + 1 := ⟨f - 1, by omega⟩
    have e : rnr isDg B len (q + j) = q + j := rnr_no (fun h => by omega)
    refine ⟨M1, ?_, by rw [e]; exact h4, rfl, fun h => by rw [e] at h ⊢; rw [show q + j - q = j by omega] at h ⊢; exact (hw h).1, hF⟩
    simp (disch := omega) only [ev_ck, ev_ci, ev_cv, ev_lt_, ↓reduceIte, ev_lens, ev_ix, ev_nz, ev_cl, ev_cll, ev_add, ev_addl, ev_ladd, ev_mul, ev_mull, ev_lmul, ev_sub, ev_subl, ev_lsub, ev_lt, ev_ltl, ev_llt, ev_le, ev_lel, ev_lle, ev_eq, ev_eql, ev_leq, ev_nm1, ev_nm5, ev_m1n, ev_neg1, ev_ltT, ev_ltF, ev_leT, ev_leF, ev_eqT, ev_eqF, ev_one0, ev_zero1, Nat.reduceAdd, Nat.reduceMul, Nat.reduceSub, ea_pI_eq, ev_pIn, ev_pIe, ea_pI_r, eq_self, fX2_advance_191, h4]
  | succ d ih =>
    intro f j M1 hd hp hf hF h4 hw
    obtain ⟨f, rfl⟩ : ∃ f', f = f' + 1 := ⟨f - 1, by omega⟩
    have lt := dg_x (hB.fr hF) (k := q + j) (by omega) M1
    by_cases ht : isDg (B (q + j)) = true
    · have hb : 48 ≤ B (q + j) ∧ B (q + j) ≤ 57 := by
        unfold isDg at ht
        rw [Bool.and_eq_true, decide_eq_true_eq, decide_eq_true_eq] at ht
        exact ht
      have v2 : M1.1 2 (q + j) = nI (B (q + j)) := ((hB.fr hF).2 (q + j) (by omega)).2.2.1 (by omega)
      obtain ⟨M2, r1, r2, r3, r4⟩ := ih f (j + 1) (ea_pI (ea_pI M1 3 8 (M1.1 3 8 * (10 : Int32) + nI (B (q + j) - 48))) 3 4 (nI (q + j + 1))) (by omega) (by omega) (by omega) ((hF.pI (by omega)).pI (by omega)) (by rw [ea_pI_eq]; rfl) (fun h8 => by
        obtain ⟨w1, w2⟩ := hw (by omega)
        refine ⟨?_, ?_⟩
        · rw [ea_pI_ne (by omega), ea_pI_eq, w1, show (10 : Int32) = nI 10 from rfl, ev_mul, ev_add]
          rfl
        · show nvl B q j * 10 + (B (q + j) - 48) + 1 ≤ 10 ^ (j + 1)
          rw [Nat.pow_succ]
          omega)
      rw [← Nat.add_assoc] at r2 r4
      rw [← rnr_yes (by omega) ht] at r2 r4
      refine ⟨M2, ?_, r2, by rw [r3]; simp (disch := omega) only [ev_ck, ev_ci, ev_cv, ev_lt_, ↓reduceIte, ev_lens, ev_ix, ev_nz, ev_cl, ev_cll, ev_add, ev_addl, ev_ladd, ev_mul, ev_mull, ev_lmul, ev_sub, ev_subl, ev_lsub, ev_lt, ev_ltl, ev_llt, ev_le, ev_lel, ev_lle, ev_eq, ev_eql, ev_leq, ev_nm1, ev_nm5, ev_m1n, ev_neg1, ev_ltT, ev_ltF, ev_leT, ev_leF, ev_eqT, ev_eqF, ev_one0, ev_zero1, Nat.reduceAdd, Nat.reduceMul, Nat.reduceSub, ea_pI_eq, ev_pIn, ev_pIe, ea_pI_r, eq_self], r4⟩
      rw [ht, v2] at lt
      rw [fX2_advance_191]
      simp (disch := omega) only [ev_ck, ev_ci, ev_cv, ev_lt_, ↓reduceIte, ev_lens, ev_ix, ev_nz, ev_cl, ev_cll, ev_add, ev_addl, ev_ladd, ev_mul, ev_mull, ev_lmul, ev_sub, ev_subl, ev_lsub, ev_lt, ev_ltl, ev_llt, ev_le, ev_lel, ev_lle, ev_eq, ev_eql, ev_leq, ev_nm1, ev_nm5, ev_m1n, ev_neg1, ev_ltT, ev_ltF, ev_leT, ev_leF, ev_eqT, ev_eqF, ev_one0, ev_zero1, Nat.reduceAdd, Nat.reduceMul, Nat.reduceSub, ea_pI_eq, ev_pIn, ev_pIe, ea_pI_r, eq_self, h4, v2, lt]
      exact r1
    · have ht := Bool.eq_false_iff.mpr ht
      have e : rnr isDg B len (q + j) = q + j := rnr_no (fun _ => ht)
      refine ⟨M1, ?_, by rw [e]; exact h4, rfl, fun h => by rw [e] at h ⊢; rw [show q + j - q = j by omega] at h ⊢; exact (hw h).1, hF⟩
      rw [ht] at lt
      simp (disch := omega) only [ev_ck, ev_ci, ev_cv, ev_lt_, ↓reduceIte, ev_lens, ev_ix, ev_nz, ev_cl, ev_cll, ev_add, ev_addl, ev_ladd, ev_mul, ev_mull, ev_lmul, ev_sub, ev_subl, ev_lsub, ev_lt, ev_ltl, ev_llt, ev_le, ev_lel, ev_lle, ev_eq, ev_eql, ev_leq, ev_nm1, ev_nm5, ev_m1n, ev_neg1, ev_ltT, ev_ltF, ev_leT, ev_leF, ev_eqT, ev_eqF, ev_one0, ev_zero1, Nat.reduceAdd, Nat.reduceMul, Nat.reduceSub, ea_pI_eq, ev_pIn, ev_pIe, ea_pI_r, eq_self, fX2_advance_191, h4, lt, Bool.false_eq_true]
/-- the next TOKEN, in the class -/
theorem px_adv (hB : BY M B len) (h11 : M.1 1 1 = nI len) {p : Nat} (hp : p ≤ len) (h4 : M.1 3 4 = nI p) : ∃ M', fX2_advance M = some M' ∧ M'.1 3 4 = nI (tE B len p) ∧ M'.1 3 7 = nI (tS B len p) ∧ M'.1 3 6 = nI (tK B len p) ∧ (tK B len p = 2 → M'.1 3 8 = nI (nvl B (tS B len p) (tE B len p - tS B len p))) ∧ (tK B len p = 1 → (M'.2.1 3 9).toInt = (wcd 27 B (tS B len p) (tE B len p - tS B len p) : Int)) ∧ FrA M M' := by
  have hl := hB.1
  obtain ⟨M1, r1, r2, r3⟩ := px_skip hB fX2_advance_49 (len - p) ea_N p M rfl hp (by unfold ea_N; omega) (FrA.rf M) h4
  have hq := rnr_b (t := isBk) (B := B) (len := len) (len - p) p rfl hp
  have start : fX2_advance M = fX2_advance_49 (nI len) M1 := by
    unfold fX2_advance fX2_advance_0
    rw [h11]
    exact r1
  have es : tS B len p = rnr isBk B len p := rfl
  generalize hqe : rnr isBk B len p = q at r2 hq es
  rw [start]
  have eE : tE B len p = if len ≤ q then q else if isLt (B q) = true then rnr isLt B len q else if isDg (B q) = true then rnr isDg B len q else q + 1 := by unfold tE; rw [es]
  have eK : tK B len p = if len ≤ q then 0 else if isLt (B q) = true then (if tE B len p - q ≤ 8 then 1 else 4) else if isDg (B q) = true then (if tE B len p - q ≤ 4 then 2 else 4) else if B q = 59 then 3 else 4 := by unfold tK; rw [es]
  rw [es]
  have hF1 : FrA M (ea_pI M1 3 7 (nI q)) := r3.pI (by omega)
  have g4 : (ea_pI M1 3 7 (nI q)).1 3 4 = nI q := by rw [ea_pI_ne (by omega)]; exact r2
  have hB1 := hB.fr hF1
  by_cases hend : len ≤ q
  · rw [if_pos hend] at eE eK
    rw [eE, eK]
    refine ⟨ea_pI (ea_pI M1 3 7 (nI q)) 3 6 0, ?_, ?_, ?_, ?_, fun h => by omega, fun h => by omega, hF1.pI (by omega)⟩
    · unfold fX2_advance_49
      simp (disch := omega) only [ev_ck, ev_ci, ev_cv, ev_lt_, ↓reduceIte, ev_lens, ev_ix, ev_nz, ev_cl, ev_cll, ev_add, ev_addl, ev_ladd, ev_mul, ev_mull, ev_lmul, ev_sub, ev_subl, ev_lsub, ev_lt, ev_ltl, ev_llt, ev_le, ev_lel, ev_lle, ev_eq, ev_eql, ev_leq, ev_nm1, ev_nm5, ev_m1n, ev_neg1, ev_ltT, ev_ltF, ev_leT, ev_leF, ev_eqT, ev_eqF, ev_one0, ev_zero1, Nat.reduceAdd, Nat.reduceMul, Nat.reduceSub, ea_pI_eq, ev_pIn, ev_pIe, ea_pI_r, eq_self, r2]
    · simp (disch := omega) only [ev_ck, ev_ci, ev_cv, ev_lt_, ↓reduceIte, ev_lens, ev_ix, ev_nz, ev_cl, ev_cll, ev_add, ev_addl, ev_ladd, ev_mul, ev_mull, ev_lmul, ev_sub, ev_subl, ev_lsub, ev_lt, ev_ltl, ev_llt, ev_le, ev_lel, ev_lle, ev_eq, ev_eql, ev_leq, ev_nm1, ev_nm5, ev_m1n, ev_neg1, ev_ltT, ev_ltF, ev_leT, ev_leF, ev_eqT, ev_eqF, ev_one0, ev_zero1, Nat.reduceAdd, Nat.reduceMul, Nat.reduceSub, ea_pI_eq, ev_pIn, ev_pIe, ea_pI_r, eq_self]; exact r2
    · simp (disch := omega) only [ev_ck, ev_ci, ev_cv, ev_lt_, ↓reduceIte, ev_lens, ev_ix, ev_nz, ev_cl, ev_cll, ev_add, ev_addl, ev_ladd, ev_mul, ev_mull, ev_lmul, ev_sub, ev_subl, ev_lsub, ev_lt, ev_ltl, ev_llt, ev_le, ev_lel, ev_lle, ev_eq, ev_eql, ev_leq, ev_nm1, ev_nm5, ev_m1n, ev_neg1, ev_ltT, ev_ltF, ev_leT, ev_leF, ev_eqT, ev_eqF, ev_one0, ev_zero1, Nat.reduceAdd, Nat.reduceMul, Nat.reduceSub, ea_pI_eq, ev_pIn, ev_pIe, ea_pI_r, eq_self]
    · simp (disch := omega) only [ev_ck, ev_ci, ev_cv, ev_lt_, ↓reduceIte, ev_lens, ev_ix, ev_nz, ev_cl, ev_cll, ev_add, ev_addl, ev_ladd, ev_mul, ev_mull, ev_lmul, ev_sub, ev_subl, ev_lsub, ev_lt, ev_ltl, ev_llt, ev_le, ev_lel, ev_lle, ev_eq, ev_eql, ev_leq, ev_nm1, ev_nm5, ev_m1n, ev_neg1, ev_ltT, ev_ltF, ev_leT, ev_leF, ev_eqT, ev_eqF, ev_one0, ev_zero1, Nat.reduceAdd, Nat.reduceMul, Nat.reduceSub, ea_pI_eq, ev_pIn, ev_pIe, ea_pI_r, eq_self]
  · rw [if_neg hend] at eE eK
    have lx := lt_x hB1 (k := q) (by omega) (ea_pI M1 3 7 (nI q))
    have dx := dg_x hB1 (k := q) (by omega) (ea_pI M1 3 7 (nI q))
    have e2 : (ea_pI M1 3 7 (nI q)).1 2 q = M1.1 2 q := by rw [ea_pI_ne (by omega)]
    rw [e2] at lx dx
    by_cases hlt : isLt (B q) = true
    · rw [if_pos hlt] at eE eK
      obtain ⟨M2, w1, w2, w3, w4, w5⟩ := px_word hB (q := q) fX2_advance_148 (len - q) ea_N 0 (ea_pL (ea_pI M1 3 7 (nI q)) 3 9 0) (by omega) (by omega) (by unfold ea_N; omega) hF1.pL g4 (fun _ => ⟨by rw [ev_pL]; show (0 : Int64).toInt = ((0 : Nat) : Int); decide, Nat.le_refl _⟩)
      rw [Nat.add_zero] at w2 w4
      have w3 : M2.1 3 7 = nI q := by rw [w3]; show (ea_pI M1 3 7 (nI q)).1 3 7 = nI q; rw [ea_pI_eq]
      have hr := rnr_b (t := isLt) (B := B) (len := len) (len - q) q rfl (by omega)
      rw [← eE] at w2 w4 hr
      rw [hlt] at lx
      have go : fX2_advance_49 (nI len) M1 = fX2_advance_148 M2 := by
        unfold fX2_advance_49
        simp (disch := omega) only [ev_ck, ev_ci, ev_cv, ev_lt_, ↓reduceIte, ev_lens, ev_ix, ev_nz, ev_cl, ev_cll, ev_add, ev_addl, ev_ladd, ev_mul, ev_mull, ev_lmul, ev_sub, ev_subl, ev_lsub, ev_lt, ev_ltl, ev_llt, ev_le, ev_lel, ev_lle, ev_eq, ev_eql, ev_leq, ev_nm1, ev_nm5, ev_m1n, ev_neg1, ev_ltT, ev_ltF, ev_leT, ev_leF, ev_eqT, ev_eqF, ev_one0, ev_zero1, Nat.reduceAdd, Nat.reduceMul, Nat.reduceSub, ea_pI_eq, ev_pIn, ev_pIe, ea_pI_r, eq_self, r2, lx]
        exact w1
      rw [go]
      unfold fX2_advance_148 fX2_advance_168
      rw [w2, w3, ev_sub hr.1]
      by_cases h8 : tE B len p - q ≤ 8
      · rw [if_pos h8] at eK
        rw [eK, if_neg (by rw [show (8 : Int32) = nI 8 from rfl, pn_ltI (by omega) (by omega)]; omega)]
        refine ⟨_, rfl, ?_, ?_, ?_, fun h => by omega, fun _ => w4 h8, w5.pI (by omega)⟩
        · rw [ea_pI_ne (by omega)]; exact w2
        · rw [ea_pI_ne (by omega)]; exact w3
        · rw [ea_pI_eq]; rfl
      · rw [if_neg h8] at eK
        rw [eK, if_pos (by rw [show (8 : Int32) = nI 8 from rfl, pn_ltI (by omega) (by omega)]; omega)]
        refine ⟨_, rfl, ?_, ?_, ?_, fun h => by omega, fun h => by omega, w5.pI (by omega)⟩
        · rw [ea_pI_ne (by omega)]; exact w2
        · rw [ea_pI_ne (by omega)]; exact w3
        · rw [ea_pI_eq]; rfl
    · have hlf := Bool.eq_false_iff.mpr hlt
      rw [if_neg hlt] at eE eK
      rw [hlf] at lx
      by_cases hdg : isDg (B q) = true
      · rw [if_pos hdg] at eE eK
        obtain ⟨M2, w1, w2, w3, w4, w5⟩ := px_numb hB (q := q) fX2_advance_245 (len - q) ea_N 0 (ea_pI (ea_pI M1 3 7 (nI q)) 3 8 0) (by omega) (by omega) (by unfold ea_N; omega) (hF1.pI (by omega)) (by rw [ea_pI_ne (by omega)]; exact g4) (fun _ => ⟨by rw [ea_pI_eq]; rfl, Nat.le_refl _⟩)
        rw [Nat.add_zero] at w2 w4
        have w3 : M2.1 3 7 = nI q := by rw [w3, ea_pI_ne (by omega), ea_pI_eq]
        have hr := rnr_b (t := isDg) (B := B) (len := len) (len - q) q rfl (by omega)
        rw [← eE] at w2 w4 hr
        rw [hdg] at dx
        have go : fX2_advance_49 (nI len) M1 = fX2_advance_245 M2 := by
          unfold fX2_advance_49
          simp (disch := omega) only [ev_ck, ev_ci, ev_cv, ev_lt_, ↓reduceIte, ev_lens, ev_ix, ev_nz, ev_cl, ev_cll, ev_add, ev_addl, ev_ladd, ev_mul, ev_mull, ev_lmul, ev_sub, ev_subl, ev_lsub, ev_lt, ev_ltl, ev_llt, ev_le, ev_lel, ev_lle, ev_eq, ev_eql, ev_leq, ev_nm1, ev_nm5, ev_m1n, ev_neg1, ev_ltT, ev_ltF, ev_leT, ev_leF, ev_eqT, ev_eqF, ev_one0, ev_zero1, Nat.reduceAdd, Nat.reduceMul, Nat.reduceSub, ea_pI_eq, ev_pIn, ev_pIe, ea_pI_r, eq_self, r2, lx, dx, Bool.false_eq_true]
          exact w1
        rw [go]
        unfold fX2_advance_245 fX2_advance_264
        rw [w2, w3, ev_sub hr.1]
        by_cases h8 : tE B len p - q ≤ 4
        · rw [if_pos h8] at eK
          rw [eK, if_neg (by rw [show (4 : Int32) = nI 4 from rfl, pn_ltI (by omega) (by omega)]; omega)]
          refine ⟨_, rfl, ?_, ?_, ?_, fun _ => ?_, fun h => by omega, w5.pI (by omega)⟩
          · rw [ea_pI_ne (by omega)]; exact w2
          · rw [ea_pI_ne (by omega)]; exact w3
          · rw [ea_pI_eq]; rfl
          · rw [ea_pI_ne (by omega)]; exact w4 h8
        · rw [if_neg h8] at eK
          rw [eK, if_pos (by rw [show (4 : Int32) = nI 4 from rfl, pn_ltI (by omega) (by omega)]; omega)]
          refine ⟨_, rfl, ?_, ?_, ?_, fun h => by omega, fun h => by omega, w5.pI (by omega)⟩
          · rw [ea_pI_ne (by omega)]; exact w2
          · rw [ea_pI_ne (by omega)]; exact w3
          · rw [ea_pI_eq]; rfl
      · have hdf := Bool.eq_false_iff.mpr hdg
        rw [if_neg hdg] at eE eK
        rw [hdf] at dx
        obtain ⟨-, -, b3, b4⟩ := hB1.2 q (by omega)
        rw [e2] at b3 b4
        have sem : (M1.1 2 q = (59 : Int32)) ↔ B q = 59 := by
          constructor
          · intro e
            by_cases hb : B q < 128
            · rw [b3 hb] at e
              exact (nI_eq (b := 59) (by omega) (by decide)).mp e
            · have := b4 (by omega)
              rw [e] at this
              exact absurd this (by decide)
          · intro e
            rw [b3 (by omega), e]
            rfl
        by_cases h59 : B q = 59
        · rw [if_pos h59] at eK
          rw [eE, eK]
          refine ⟨ea_pI (ea_pI (ea_pI M1 3 7 (nI q)) 3 6 3) 3 4 (nI (q + 1)), ?_, ?_, ?_, ?_, fun h => by omega, fun h => by omega, (hF1.pI (by omega)).pI (by omega)⟩
          · unfold fX2_advance_49
            simp (disch := omega) only [ev_ck, ev_ci, ev_cv, ev_lt_, ↓reduceIte, ev_lens, ev_ix, ev_nz, ev_cl, ev_cll, ev_add, ev_addl, ev_ladd, ev_mul, ev_mull, ev_lmul, ev_sub, ev_subl, ev_lsub, ev_lt, ev_ltl, ev_llt, ev_le, ev_lel, ev_lle, ev_eq, ev_eql, ev_leq, ev_nm1, ev_nm5, ev_m1n, ev_neg1, ev_ltT, ev_ltF, ev_leT, ev_leF, ev_eqT, ev_eqF, ev_one0, ev_zero1, Nat.reduceAdd, Nat.reduceMul, Nat.reduceSub, ea_pI_eq, ev_pIn, ev_pIe, ea_pI_r, eq_self, r2, lx, dx, Bool.false_eq_true, eq_true (sem.mpr h59), fX2_advance_287]
          · simp (disch := omega) only [ev_ck, ev_ci, ev_cv, ev_lt_, ↓reduceIte, ev_lens, ev_ix, ev_nz, ev_cl, ev_cll, ev_add, ev_addl, ev_ladd, ev_mul, ev_mull, ev_lmul, ev_sub, ev_subl, ev_lsub, ev_lt, ev_ltl, ev_llt, ev_le, ev_lel, ev_lle, ev_eq, ev_eql, ev_leq, ev_nm1, ev_nm5, ev_m1n, ev_neg1, ev_ltT, ev_ltF, ev_leT, ev_leF, ev_eqT, ev_eqF, ev_one0, ev_zero1, Nat.reduceAdd, Nat.reduceMul, Nat.reduceSub, ea_pI_eq, ev_pIn, ev_pIe, ea_pI_r, eq_self]
          · simp (disch := omega) only [ev_ck, ev_ci, ev_cv, ev_lt_, ↓reduceIte, ev_lens, ev_ix, ev_nz, ev_cl, ev_cll, ev_add, ev_addl, ev_ladd, ev_mul, ev_mull, ev_lmul, ev_sub, ev_subl, ev_lsub, ev_lt, ev_ltl, ev_llt, ev_le, ev_lel, ev_lle, ev_eq, ev_eql, ev_leq, ev_nm1, ev_nm5, ev_m1n, ev_neg1, ev_ltT, ev_ltF, ev_leT, ev_leF, ev_eqT, ev_eqF, ev_one0, ev_zero1, Nat.reduceAdd, Nat.reduceMul, Nat.reduceSub, ea_pI_eq, ev_pIn, ev_pIe, ea_pI_r, eq_self]
          · simp (disch := omega) only [ev_ck, ev_ci, ev_cv, ev_lt_, ↓reduceIte, ev_lens, ev_ix, ev_nz, ev_cl, ev_cll, ev_add, ev_addl, ev_ladd, ev_mul, ev_mull, ev_lmul, ev_sub, ev_subl, ev_lsub, ev_lt, ev_ltl, ev_llt, ev_le, ev_lel, ev_lle, ev_eq, ev_eql, ev_leq, ev_nm1, ev_nm5, ev_m1n, ev_neg1, ev_ltT, ev_ltF, ev_leT, ev_leF, ev_eqT, ev_eqF, ev_one0, ev_zero1, Nat.reduceAdd, Nat.reduceMul, Nat.reduceSub, ea_pI_eq, ev_pIn, ev_pIe, ea_pI_r, eq_self]
        · rw [if_neg h59] at eK
          rw [eE, eK]
          refine ⟨ea_pI (ea_pI (ea_pI M1 3 7 (nI q)) 3 6 4) 3 4 (nI (q + 1)), ?_, ?_, ?_, ?_, fun h => by omega, fun h => by omega, (hF1.pI (by omega)).pI (by omega)⟩
          · have ns : ¬ M1.1 2 q = (59 : Int32) := fun e => h59 (sem.mp e)
            unfold fX2_advance_49
            simp (disch := omega) only [ev_ck, ev_ci, ev_cv, ev_lt_, ↓reduceIte, ev_lens, ev_ix, ev_nz, ev_cl, ev_cll, ev_add, ev_addl, ev_ladd, ev_mul, ev_mull, ev_lmul, ev_sub, ev_subl, ev_lsub, ev_lt, ev_ltl, ev_llt, ev_le, ev_lel, ev_lle, ev_eq, ev_eql, ev_leq, ev_nm1, ev_nm5, ev_m1n, ev_neg1, ev_ltT, ev_ltF, ev_leT, ev_leF, ev_eqT, ev_eqF, ev_one0, ev_zero1, Nat.reduceAdd, Nat.reduceMul, Nat.reduceSub, ea_pI_eq, ev_pIn, ev_pIe, ea_pI_r, eq_self, r2, lx, dx, Bool.false_eq_true, eq_false ns, fX2_advance_287]
          · simp (disch := omega) only [ev_ck, ev_ci, ev_cv, ev_lt_, ↓reduceIte, ev_lens, ev_ix, ev_nz, ev_cl, ev_cll, ev_add, ev_addl, ev_ladd, ev_mul, ev_mull, ev_lmul, ev_sub, ev_subl, ev_lsub, ev_lt, ev_ltl, ev_llt, ev_le, ev_lel, ev_lle, ev_eq, ev_eql, ev_leq, ev_nm1, ev_nm5, ev_m1n, ev_neg1, ev_ltT, ev_ltF, ev_leT, ev_leF, ev_eqT, ev_eqF, ev_one0, ev_zero1, Nat.reduceAdd, Nat.reduceMul, Nat.reduceSub, ea_pI_eq, ev_pIn, ev_pIe, ea_pI_r, eq_self]
          · simp (disch := omega) only [ev_ck, ev_ci, ev_cv, ev_lt_, ↓reduceIte, ev_lens, ev_ix, ev_nz, ev_cl, ev_cll, ev_add, ev_addl, ev_ladd, ev_mul, ev_mull, ev_lmul, ev_sub, ev_subl, ev_lsub, ev_lt, ev_ltl, ev_llt, ev_le, ev_lel, ev_lle, ev_eq, ev_eql, ev_leq, ev_nm1, ev_nm5, ev_m1n, ev_neg1, ev_ltT, ev_ltF, ev_leT, ev_leF, ev_eqT, ev_eqF, ev_one0, ev_zero1, Nat.reduceAdd, Nat.reduceMul, Nat.reduceSub, ea_pI_eq, ev_pIn, ev_pIe, ea_pI_r, eq_self]
          · simp (disch := omega) only [ev_ck, ev_ci, ev_cv, ev_lt_, ↓reduceIte, ev_lens, ev_ix, ev_nz, ev_cl, ev_cll, ev_add, ev_addl, ev_ladd, ev_mul, ev_mull, ev_lmul, ev_sub, ev_subl, ev_lsub, ev_lt, ev_ltl, ev_llt, ev_le, ev_lel, ev_lle, ev_eq, ev_eql, ev_leq, ev_nm1, ev_nm5, ev_m1n, ev_neg1, ev_ltT, ev_ltF, ev_leT, ev_leF, ev_eqT, ev_eqF, ev_one0, ev_zero1, Nat.reduceAdd, Nat.reduceMul, Nat.reduceSub, ea_pI_eq, ev_pIn, ev_pIe, ea_pI_r, eq_self]
end AD
