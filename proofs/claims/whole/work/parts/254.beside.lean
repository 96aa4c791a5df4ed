theorem pz_sh (x a : Nat) : nI x + (nI a - 1) = nI (x + a) - 1 := by
  rw [Int32.sub_eq_add_neg, Int32.sub_eq_add_neg, ← Int32.add_assoc, nI_add]
theorem pz_sh1 (x : Nat) : nI x - 1 + 1 = nI (x + 1) - 1 := by
  rw [Int32.sub_add_cancel, show nI (x + 1) = nI x + 1 from (nI_add x 1).symm, Int32.add_sub_cancel]
theorem pb_sh {m N : Nat} (hm : m < 1000) (hN : N < 1000) : pb (nI m - 1) 0 (nI N - 1) = if 1 ≤ m ∧ m ≤ N then 1 else 0 := by
  have e0 : (0 : Int32).toInt = 0 := by decide
  have em : (nI m - 1).toInt = (m : Int) - 1 := pk_sub_toInt (a := m) (b := 1) (by omega) (by omega)
  have eN : (nI N - 1).toInt = (N : Int) - 1 := pk_sub_toInt (a := N) (b := 1) (by omega) (by omega)
  unfold pb
  by_cases h1 : 1 ≤ m
  · rw [if_neg (by rw [Int32.lt_iff_toInt_lt, em, e0]; omega)]
    by_cases h2 : m ≤ N
    · rw [if_neg (by rw [Int32.lt_iff_toInt_lt, em, eN]; omega), if_pos ⟨h1, h2⟩]
    · rw [if_pos (by rw [Int32.lt_iff_toInt_lt, em, eN]; omega), if_neg (fun h => h2 h.2)]
  · rw [if_pos (by rw [Int32.lt_iff_toInt_lt, em, e0]; omega), if_neg (fun h => h1 h.1)]
/-- the CELL beside, by its place among nine -/
def nbOn (n0 n1 c0 r0 a b : Nat) : Bool := decide (((1 ≤ c0 + a ∧ c0 + a ≤ n0) ∧ (1 ≤ r0 + b ∧ r0 + b ≤ n1)) ∧ ¬ (a = 1 ∧ b = 1))
theorem nbOn_t {n0 n1 c0 r0 a b : Nat} : nbOn n0 n1 c0 r0 a b = true ↔ (((1 ≤ c0 + a ∧ c0 + a ≤ n0) ∧ (1 ≤ r0 + b ∧ r0 + b ≤ n1)) ∧ ¬ (a = 1 ∧ b = 1)) := decide_eq_true_iff
def nbL (n0 n1 c0 r0 : Nat) : Nat → List Nat
  | 0 => []
  | k + 1 => nbL n0 n1 c0 r0 k ++ (if nbOn n0 n1 c0 r0 (k % 3) (k / 3) = true then [(r0 + k / 3 - 1) * n0 + (c0 + k % 3 - 1)] else [])
theorem nbL_s (n0 n1 c0 r0 k : Nat) : nbL n0 n1 c0 r0 (k + 1) = nbL n0 n1 c0 r0 k ++ (if nbOn n0 n1 c0 r0 (k % 3) (k / 3) = true then [(r0 + k / 3 - 1) * n0 + (c0 + k % 3 - 1)] else []) := rfl
theorem nbL_len (n0 n1 c0 r0 : Nat) : ∀ k, (nbL n0 n1 c0 r0 k).length ≤ (if k ≤ 4 then k else k - 1)
  | 0 => Nat.zero_le _
  | k + 1 => by
    have ih := nbL_len n0 n1 c0 r0 k
    rw [nbL_s, List.length_append]
    by_cases h : nbOn n0 n1 c0 r0 (k % 3) (k / 3) = true
    · rw [if_pos h]
      have h4 : k ≠ 4 := fun e => (nbOn_t.mp h).2 (by rw [e]; decide)
      show _ + 1 ≤ _
      by_cases h1 : k ≤ 4
      · rw [if_pos h1] at ih
        rw [if_pos (by omega)]; omega
      · rw [if_neg h1] at ih
        rw [if_neg (by omega)]; omega
    · rw [if_neg h]
      show _ + 0 ≤ _
      by_cases h1 : k ≤ 4
      · rw [if_pos h1] at ih
        by_cases h2 : k + 1 ≤ 4
        · rw [if_pos h2]; omega
        · rw [if_neg h2]; omega
      · rw [if_neg h1] at ih
        rw [if_neg (by omega)]; omega
theorem cell_lt {x y n0 n1 : Nat} (hx : x < n1) (hy : y < n0) : x * n0 + y < n0 * n1 := by
  have : (x + 1) * n0 ≤ n1 * n0 := Nat.mul_le_mul_right n0 hx
  rw [Nat.succ_mul, Nat.mul_comm n1] at this
  omega
section BS
variable {M : eM} {cc th : Nat} {n : Nat → Nat} {v : Nat → Nat → Nat} {o w q : Nat → Nat} {l t r : Nat → Nat → Nat} {s kn cell : Nat}
theorem px_nb (hC : Ctx M cc n v th o w q l t r) (hcell : cell < n 0 * n 1) {a b : Nat} (ha : a < 3) (hb : b < 3) : fX1_cellBeside cc (nI cell) (nI a - 1) (nI b - 1) M = some (if nbOn (n 0) (n 1) (cell % n 0) (cell / n 0) a b = true then nI ((cell / n 0 + b - 1) * n 0 + (cell % n 0 + a - 1)) else -1, M) := by
  have ho := hC.1.2.2.2.1
  have h0 := ho.1
  have h1 := ho.2.1
  have hcl : n 0 * n 1 ≤ 48 := Nat.mul_le_mul ho.1.2 ho.2.1.2
  have hX := hC.1.2.2.2.2.1
  have hcol := px_col hX ho (cell := cell) (by omega)
  have hr : cell / n 0 < n 1 := Nat.div_lt_of_lt_mul hcell
  have hc : cell % n 0 < n 0 := Nat.mod_lt _ (by omega)
  have hdv : nI cell / nI (n 0) = nI (cell / n 0) := ev_div (by omega) (by omega) (by omega)
  generalize cell % n 0 = c0 at hcol hc
  generalize cell / n 0 = r0 at hdv hr
  have e1 := hX.1.1
  have e2 := hX.1.2.1
  have az : ((nI a - 1 : Int32) = 0) ↔ a = 1 := by
    rcases (show a = 0 ∨ a = 1 ∨ a = 2 by omega) with rfl | rfl | rfl <;> decide
  have bz : ((nI b - 1 : Int32) = 0) ↔ b = 1 := by
    rcases (show b = 0 ∨ b = 1 ∨ b = 2 by omega) with rfl | rfl | rfl <;> decide
  unfold fX1_cellBeside fX1_cellBeside_0
  rw [hcol, ev_ci, e1, if_neg (by rw [pn_le0 (by omega)]; omega), ea_ck_t (pn_nz (by omega) (by omega)), hdv]
  unfold fX1_cellBeside_26
  rw [px_in, ev_ci, e1, pz_sh, pb_sh (by omega) (by omega)]
  by_cases q1 : 1 ≤ c0 + a ∧ c0 + a ≤ n 0
  · rw [if_pos q1, if_neg (by decide), px_in, ev_ci, e2, pz_sh, pb_sh (by omega) (by omega)]
    by_cases q2 : 1 ≤ r0 + b ∧ r0 + b ≤ n 1
    · rw [if_pos q2, if_neg (by decide)]
      unfold fX1_cellBeside_65 fX1_cellBeside_80
      rw [if_neg (by decide), e1, show nI (r0 + b) - 1 = nI (r0 + b - 1) from ev_sub (b := 1) (by omega), show nI (c0 + a) - 1 = nI (c0 + a - 1) from ev_sub (b := 1) (by omega), ev_mul, ev_add]
      by_cases q3 : a = 1 ∧ b = 1
      · rw [if_pos (az.mpr q3.1), if_pos (bz.mpr q3.2), if_neg (fun h => (nbOn_t.mp h).2 q3)]
      · rw [if_pos (nbOn_t.mpr ⟨⟨q1, q2⟩, q3⟩)]
        by_cases q4 : a = 1
        · rw [if_pos (az.mpr q4), if_neg (fun h => q3 ⟨q4, bz.mp h⟩)]
        · rw [if_neg (fun h => q4 (az.mp h))]
    · rw [if_neg q2, if_pos rfl, if_neg (fun h => q2 (nbOn_t.mp h).1.2)]
      unfold fX1_cellBeside_64 fX1_cellBeside_65
      rw [if_pos rfl]
  · rw [if_neg q1, if_pos rfl, if_neg (fun h => q1 (nbOn_t.mp h).1.1)]
    unfold fX1_cellBeside_64 fX1_cellBeside_65
    rw [if_pos rfl]
/-- the one most often beside, the least of them -/
def bsv (V : Nat → Int32) (P i : Nat) : Nat := if V i = -1 then 0 else cnt (fun j => decide (V j = V i)) P
def bst (V : Nat → Int32) (P : Nat) : Nat → Int32 × Nat
  | 0 => (-1, 0)
  | i + 1 => if (bst V P i).2 < bsv V P i ∨ (0 < bsv V P i ∧ bsv V P i = (bst V P i).2 ∧ V i < (bst V P i).1) then (V i, bsv V P i) else bst V P i
theorem bst_s (V : Nat → Int32) (P i : Nat) : bst V P (i + 1) = if (bst V P i).2 < bsv V P i ∨ (0 < bsv V P i ∧ bsv V P i = (bst V P i).2 ∧ V i < (bst V P i).1) then (V i, bsv V P i) else bst V P i := rfl
theorem bsv_le (V : Nat → Int32) (P i : Nat) : bsv V P i ≤ P := by
  unfold bsv
  by_cases h : V i = -1
  · rw [if_pos h]; exact Nat.zero_le _
  · rw [if_neg h]; exact cnt_le _ _
theorem bst_le (V : Nat → Int32) (P : Nat) : ∀ i, (bst V P i).2 ≤ P
  | 0 => Nat.zero_le _
  | i + 1 => by
    rw [bst_s]
    by_cases h : (bst V P i).2 < bsv V P i ∨ (0 < bsv V P i ∧ bsv V P i = (bst V P i).2 ∧ V i < (bst V P i).1)
    · rw [if_pos h]; exact bsv_le V P i
    · rw [if_neg h]; exact bst_le V P i
theorem px_bst {V : Nat → Int32} {P : Nat} (hP : P ≤ 8) (hV : ∀ i, i < P → M.1 79 i = V i) (x4 : Int32) (k207 : Int32 → Int32 → Int32 → eM → Option (Int32 × eM)) : ∀ (d k i : Nat), P - i = d → i ≤ P → d < k → fX10_beside_119 k207 k x4 (nI P) (bst V P i).1 (nI (bst V P i).2) (nI i) M = k207 x4 (bst V P P).1 (nI (bst V P P).2) M := by
  intro d
  induction d with
  | zero =>
    intro k i hd hi hk
    obtain ⟨k, rfl⟩ : ∃ f', k = f' + 1 := ⟨k - 1, by omega⟩
    obtain rfl : i = P := by omega
    simp (disch := omega) only [ev_ck, ev_ci, ev_cv, ev_lt_, ↓reduceIte, ev_lens, ev_ix, ev_nz, ev_cl, ev_cll, ev_add, ev_addl, ev_ladd, ev_mul, ev_mull, ev_lmul, ev_sub, ev_subl, ev_lsub, ev_lt, ev_ltl, ev_llt, ev_le, ev_lel, ev_lle, ev_eq, ev_eql, ev_leq, ev_nm1, ev_nm5, ev_m1n, ev_neg1, ev_ltT, ev_ltF, ev_leT, ev_leF, ev_eqT, ev_eqF, ev_one0, ev_zero1, Nat.reduceAdd, Nat.reduceMul, Nat.reduceSub, ea_pI_eq, ev_pIn, ev_pIe, ea_pI_r, eq_self, fX10_beside_119]
  | succ d ih =>
    intro k i hd hi hk
    obtain ⟨k, rfl⟩ : ∃ f', k = f' + 1 := ⟨k - 1, by omega⟩
    have nx := ih k (i + 1) (by omega) (by omega) (by omega)
    have vi := hV i (by omega)
    have am := px_among (N := P) (by omega) hV (V i) (f0 := 0) (t0 := P) (by omega) (by omega)
    have am : fX10_sureAmong (V i) 0 (nI P) M = some (nI (cnt (fun j => decide (V j = V i)) P - 0), M) := am
    rw [Nat.sub_zero] at am
    rw [bst_s] at nx
    have hle := bst_le V P i
    have step : fX10_beside_155 (fX10_beside_119 k207 k) x4 (nI P) (bst V P i).1 (nI (bst V P i).2) (nI i) (nI (bsv V P i)) M = k207 x4 (bst V P P).1 (nI (bst V P P).2) M := by
      have hb := bsv_le V P i
      generalize bst V P i = z at nx hle
      generalize bsv V P i = m at nx hb
      by_cases h1 : z.2 < m
      · rw [if_pos (Or.inl h1)] at nx
        simp (disch := omega) only [ev_ck, ev_ci, ev_cv, ev_lt_, ↓reduceIte, ev_lens, ev_ix, ev_nz, ev_cl, ev_cll, ev_add, ev_addl, ev_ladd, ev_mul, ev_mull, ev_lmul, ev_sub, ev_subl, ev_lsub, ev_lt, ev_ltl, ev_llt, ev_le, ev_lel, ev_lle, ev_eq, ev_eql, ev_leq, ev_nm1, ev_nm5, ev_m1n, ev_neg1, ev_ltT, ev_ltF, ev_leT, ev_leF, ev_eqT, ev_eqF, ev_one0, ev_zero1, Nat.reduceAdd, Nat.reduceMul, Nat.reduceSub, ea_pI_eq, ev_pIn, ev_pIe, ea_pI_r, eq_self, fX10_beside_155, fX10_beside_188, fX10_beside_201, vi]
        exact nx
      · by_cases h2 : m = 0
        · rw [if_neg (by omega)] at nx
          simp (disch := omega) only [ev_ck, ev_ci, ev_cv, ev_lt_, ↓reduceIte, ev_lens, ev_ix, ev_nz, ev_cl, ev_cll, ev_add, ev_addl, ev_ladd, ev_mul, ev_mull, ev_lmul, ev_sub, ev_subl, ev_lsub, ev_lt, ev_ltl, ev_llt, ev_le, ev_lel, ev_lle, ev_eq, ev_eql, ev_leq, ev_nm1, ev_nm5, ev_m1n, ev_neg1, ev_ltT, ev_ltF, ev_leT, ev_leF, ev_eqT, ev_eqF, ev_one0, ev_zero1, Nat.reduceAdd, Nat.reduceMul, Nat.reduceSub, ea_pI_eq, ev_pIn, ev_pIe, ea_pI_r, eq_self, fX10_beside_155, fX10_beside_188, fX10_beside_201, vi]
          exact nx
        · by_cases h3 : m = z.2
          · by_cases h4 : V i < z.1
            · rw [if_pos (Or.inr ⟨by omega, h3, h4⟩)] at nx
              simp (disch := omega) only [ev_ck, ev_ci, ev_cv, ev_lt_, ↓reduceIte, ev_lens, ev_ix, ev_nz, ev_cl, ev_cll, ev_add, ev_addl, ev_ladd, ev_mul, ev_mull, ev_lmul, ev_sub, ev_subl, ev_lsub, ev_lt, ev_ltl, ev_llt, ev_le, ev_lel, ev_lle, ev_eq, ev_eql, ev_leq, ev_nm1, ev_nm5, ev_m1n, ev_neg1, ev_ltT, ev_ltF, ev_leT, ev_leF, ev_eqT, ev_eqF, ev_one0, ev_zero1, Nat.reduceAdd, Nat.reduceMul, Nat.reduceSub, ea_pI_eq, ev_pIn, ev_pIe, ea_pI_r, eq_self, fX10_beside_155, fX10_beside_188, fX10_beside_201, vi, eq_false (Int32.not_le.mpr h4)]
              exact nx
            · rw [if_neg (fun h => h.elim h1 (fun q => h4 q.2.2))] at nx
              simp (disch := omega) only [ev_ck, ev_ci, ev_cv, ev_lt_, ↓reduceIte, ev_lens, ev_ix, ev_nz, ev_cl, ev_cll, ev_add, ev_addl, ev_ladd, ev_mul, ev_mull, ev_lmul, ev_sub, ev_subl, ev_lsub, ev_lt, ev_ltl, ev_llt, ev_le, ev_lel, ev_lle, ev_eq, ev_eql, ev_leq, ev_nm1, ev_nm5, ev_m1n, ev_neg1, ev_ltT, ev_ltF, ev_leT, ev_leF, ev_eqT, ev_eqF, ev_one0, ev_zero1, Nat.reduceAdd, Nat.reduceMul, Nat.reduceSub, ea_pI_eq, ev_pIn, ev_pIe, ea_pI_r, eq_self, fX10_beside_155, fX10_beside_188, fX10_beside_201, vi, eq_true (Int32.not_lt.mp h4)]
              exact nx
          · rw [if_neg (fun h => h.elim h1 (fun q => h3 q.2.1))] at nx
            simp (disch := omega) only [ev_ck, ev_ci, ev_cv, ev_lt_, ↓reduceIte, ev_lens, ev_ix, ev_nz, ev_cl, ev_cll, ev_add, ev_addl, ev_ladd, ev_mul, ev_mull, ev_lmul, ev_sub, ev_subl, ev_lsub, ev_lt, ev_ltl, ev_llt, ev_le, ev_lel, ev_lle, ev_eq, ev_eql, ev_leq, ev_nm1, ev_nm5, ev_m1n, ev_neg1, ev_ltT, ev_ltF, ev_leT, ev_leF, ev_eqT, ev_eqF, ev_one0, ev_zero1, Nat.reduceAdd, Nat.reduceMul, Nat.reduceSub, ea_pI_eq, ev_pIn, ev_pIe, ea_pI_r, eq_self, fX10_beside_155, fX10_beside_188, fX10_beside_201, vi]
            exact nx
    unfold bsv at step
    by_cases hm : V i = -1
    · rw [if_pos hm] at step
      simp (disch := omega) only [ev_ck, ev_ci, ev_cv, ev_lt_, ↓reduceIte, ev_lens, ev_ix, ev_nz, ev_cl, ev_cll, ev_add, ev_addl, ev_ladd, ev_mul, ev_mull, ev_lmul, ev_sub, ev_subl, ev_lsub, ev_lt, ev_ltl, ev_llt, ev_le, ev_lel, ev_lle, ev_eq, ev_eql, ev_leq, ev_nm1, ev_nm5, ev_m1n, ev_neg1, ev_ltT, ev_ltF, ev_leT, ev_leF, ev_eqT, ev_eqF, ev_one0, ev_zero1, Nat.reduceAdd, Nat.reduceMul, Nat.reduceSub, ea_pI_eq, ev_pIn, ev_pIe, ea_pI_r, eq_self, fX10_beside_119, vi, hm]
      exact step
    · rw [if_neg hm] at step
      simp (disch := omega) only [ev_ck, ev_ci, ev_cv, ev_lt_, ↓reduceIte, ev_lens, ev_ix, ev_nz, ev_cl, ev_cll, ev_add, ev_addl, ev_ladd, ev_mul, ev_mull, ev_lmul, ev_sub, ev_subl, ev_lsub, ev_lt, ev_ltl, ev_llt, ev_le, ev_lel, ev_lle, ev_eq, ev_eql, ev_leq, ev_nm1, ev_nm5, ev_m1n, ev_neg1, ev_ltT, ev_ltF, ev_leT, ev_leF, ev_eqT, ev_eqF, ev_one0, ev_zero1, Nat.reduceAdd, Nat.reduceMul, Nat.reduceSub, ea_pI_eq, ev_pIn, ev_pIe, ea_pI_r, eq_self, fX10_beside_119, vi, eq_false hm, am]
      exact step
theorem py_bst {V : Nat → Int32} {P : Nat} (hP : P ≤ 8) (hV : ∀ i, i < P → M.1 127 i = V i) (hb : ∀ i, i < P → V i = -1 ∨ ∃ x, x < 855 ∧ V i = nI x) (x4 : Int32) (k285 : Int32 → Int32 → Int32 → eM → Option (Int32 × eM)) : ∀ (d k i : Nat), P - i = d → i ≤ P → d < k → fX11_beside_169 k285 k x4 (nI P) (bst V P i).1 (nI (bst V P i).2) (nI i) M = k285 x4 (bst V P P).1 (nI (bst V P P).2) M := by
  intro d
  induction d with
  | zero =>
    intro k i hd hi hk
    obtain ⟨k, rfl⟩ : ∃ f', k = f' + 1 := ⟨k - 1, by omega⟩
    obtain rfl : i = P := by omega
    simp (disch := omega) only [ev_ck, ev_ci, ev_cv, ev_lt_, ↓reduceIte, ev_lens, ev_ix, ev_nz, ev_cl, ev_cll, ev_add, ev_addl, ev_ladd, ev_mul, ev_mull, ev_lmul, ev_sub, ev_subl, ev_lsub, ev_lt, ev_ltl, ev_llt, ev_le, ev_lel, ev_lle, ev_eq, ev_eql, ev_leq, ev_nm1, ev_nm5, ev_m1n, ev_neg1, ev_ltT, ev_ltF, ev_leT, ev_leF, ev_eqT, ev_eqF, ev_one0, ev_zero1, Nat.reduceAdd, Nat.reduceMul, Nat.reduceSub, ea_pI_eq, ev_pIn, ev_pIe, ea_pI_r, eq_self, fX11_beside_169]
  | succ d ih =>
    intro k i hd hi hk
    obtain ⟨k, rfl⟩ : ∃ f', k = f' + 1 := ⟨k - 1, by omega⟩
    have nx := ih k (i + 1) (by omega) (by omega) (by omega)
    have vi := hV i (by omega)
    rw [bst_s] at nx
    have hle := bst_le V P i
    have step : fX11_beside_232 (fX11_beside_169 k285 k) x4 (nI P) (bst V P i).1 (nI (bst V P i).2) (nI i) (nI (bsv V P i)) M = k285 x4 (bst V P P).1 (nI (bst V P P).2) M := by
      have hb := bsv_le V P i
      generalize bst V P i = z at nx hle
      generalize bsv V P i = m at nx hb
      by_cases h2 : m = 0
      · rw [if_neg (by omega)] at nx
        simp (disch := omega) only [ev_ck, ev_ci, ev_cv, ev_lt_, ↓reduceIte, ev_lens, ev_ix, ev_nz, ev_cl, ev_cll, ev_add, ev_addl, ev_ladd, ev_mul, ev_mull, ev_lmul, ev_sub, ev_subl, ev_lsub, ev_lt, ev_ltl, ev_llt, ev_le, ev_lel, ev_lle, ev_eq, ev_eql, ev_leq, ev_nm1, ev_nm5, ev_m1n, ev_neg1, ev_ltT, ev_ltF, ev_leT, ev_leF, ev_eqT, ev_eqF, ev_one0, ev_zero1, Nat.reduceAdd, Nat.reduceMul, Nat.reduceSub, ea_pI_eq, ev_pIn, ev_pIe, ea_pI_r, eq_self, fX11_beside_232, fX11_beside_266, fX11_beside_279, vi]
        exact nx
      · by_cases h1 : m < z.2
        · rw [if_neg (by omega)] at nx
          simp (disch := omega) only [ev_ck, ev_ci, ev_cv, ev_lt_, ↓reduceIte, ev_lens, ev_ix, ev_nz, ev_cl, ev_cll, ev_add, ev_addl, ev_ladd, ev_mul, ev_mull, ev_lmul, ev_sub, ev_subl, ev_lsub, ev_lt, ev_ltl, ev_llt, ev_le, ev_lel, ev_lle, ev_eq, ev_eql, ev_leq, ev_nm1, ev_nm5, ev_m1n, ev_neg1, ev_ltT, ev_ltF, ev_leT, ev_leF, ev_eqT, ev_eqF, ev_one0, ev_zero1, Nat.reduceAdd, Nat.reduceMul, Nat.reduceSub, ea_pI_eq, ev_pIn, ev_pIe, ea_pI_r, eq_self, fX11_beside_232, fX11_beside_266, fX11_beside_279, vi]
          exact nx
        · by_cases h3 : m = z.2
          · by_cases h4 : V i < z.1
            · rw [if_pos (Or.inr ⟨by omega, h3, h4⟩)] at nx
              simp (disch := omega) only [ev_ck, ev_ci, ev_cv, ev_lt_, ↓reduceIte, ev_lens, ev_ix, ev_nz, ev_cl, ev_cll, ev_add, ev_addl, ev_ladd, ev_mul, ev_mull, ev_lmul, ev_sub, ev_subl, ev_lsub, ev_lt, ev_ltl, ev_llt, ev_le, ev_lel, ev_lle, ev_eq, ev_eql, ev_leq, ev_nm1, ev_nm5, ev_m1n, ev_neg1, ev_ltT, ev_ltF, ev_leT, ev_leF, ev_eqT, ev_eqF, ev_one0, ev_zero1, Nat.reduceAdd, Nat.reduceMul, Nat.reduceSub, ea_pI_eq, ev_pIn, ev_pIe, ea_pI_r, eq_self, fX11_beside_232, fX11_beside_266, fX11_beside_279, vi, eq_true h4]
              exact nx
            · rw [if_neg (fun h => h.elim (by omega) (fun q => h4 q.2.2))] at nx
              simp (disch := omega) only [ev_ck, ev_ci, ev_cv, ev_lt_, ↓reduceIte, ev_lens, ev_ix, ev_nz, ev_cl, ev_cll, ev_add, ev_addl, ev_ladd, ev_mul, ev_mull, ev_lmul, ev_sub, ev_subl, ev_lsub, ev_lt, ev_ltl, ev_llt, ev_le, ev_lel, ev_lle, ev_eq, ev_eql, ev_leq, ev_nm1, ev_nm5, ev_m1n, ev_neg1, ev_ltT, ev_ltF, ev_leT, ev_leF, ev_eqT, ev_eqF, ev_one0, ev_zero1, Nat.reduceAdd, Nat.reduceMul, Nat.reduceSub, ea_pI_eq, ev_pIn, ev_pIe, ea_pI_r, eq_self, fX11_beside_232, fX11_beside_266, fX11_beside_279, vi, eq_false h4]
              exact nx
          · rw [if_pos (Or.inl (by omega))] at nx
            simp (disch := omega) only [ev_ck, ev_ci, ev_cv, ev_lt_, ↓reduceIte, ev_lens, ev_ix, ev_nz, ev_cl, ev_cll, ev_add, ev_addl, ev_ladd, ev_mul, ev_mull, ev_lmul, ev_sub, ev_subl, ev_lsub, ev_lt, ev_ltl, ev_llt, ev_le, ev_lel, ev_lle, ev_eq, ev_eql, ev_leq, ev_nm1, ev_nm5, ev_m1n, ev_neg1, ev_ltT, ev_ltF, ev_leT, ev_leF, ev_eqT, ev_eqF, ev_one0, ev_zero1, Nat.reduceAdd, Nat.reduceMul, Nat.reduceSub, ea_pI_eq, ev_pIn, ev_pIe, ea_pI_r, eq_self, fX11_beside_232, fX11_beside_266, fX11_beside_279, vi]
            exact nx
    unfold bsv at step
    simp (disch := omega) only [ev_ck, ev_ci, ev_cv, ev_lt_, ↓reduceIte, ev_lens, ev_ix, ev_nz, ev_cl, ev_cll, ev_add, ev_addl, ev_ladd, ev_mul, ev_mull, ev_lmul, ev_sub, ev_subl, ev_lsub, ev_lt, ev_ltl, ev_llt, ev_le, ev_lel, ev_lle, ev_eq, ev_eql, ev_leq, ev_nm1, ev_nm5, ev_m1n, ev_neg1, ev_ltT, ev_ltF, ev_leT, ev_leF, ev_eqT, ev_eqF, ev_one0, ev_zero1, Nat.reduceAdd, Nat.reduceMul, Nat.reduceSub, ea_pI_eq, ev_pIn, ev_pIe, ea_pI_r, eq_self, fX11_beside_169]
    by_cases hm : V i = -1
    · rw [if_pos hm] at step
      rw [hm] at vi
      show fX11_beside_182 _ (99999 + 1) x4 (nI P) (bst V P i).1 (nI (bst V P i).2) (nI i) 0 (nI 0) M = _
      simp (disch := omega) only [ev_ck, ev_ci, ev_cv, ev_lt_, ↓reduceIte, ev_lens, ev_ix, ev_nz, ev_cl, ev_cll, ev_add, ev_addl, ev_ladd, ev_mul, ev_mull, ev_lmul, ev_sub, ev_subl, ev_lsub, ev_lt, ev_ltl, ev_llt, ev_le, ev_lel, ev_lle, ev_eq, ev_eql, ev_leq, ev_nm1, ev_nm5, ev_m1n, ev_neg1, ev_ltT, ev_ltF, ev_leT, ev_leF, ev_eqT, ev_eqF, ev_one0, ev_zero1, Nat.reduceMul, Nat.reduceSub, ea_pI_eq, ev_pIn, ev_pIe, ea_pI_r, eq_self, fX11_beside_182, vi]
      exact step
    · rw [if_neg hm] at step
      obtain ⟨x, hx, hux⟩ := (hb i (by omega)).resolve_left hm
      have vi' : M.1 127 i = nI x := vi.trans hux
      have l2 : ∀ (d k2 j : Nat), P - j = d → j ≤ P → d < k2 → fX11_beside_182 (fX11_beside_232 (fX11_beside_169 k285 k)) k2 x4 (nI P) (bst V P i).1 (nI (bst V P i).2) (nI i) (nI (cnt (fun j => decide (V j = V i)) j)) (nI j) M = fX11_beside_232 (fX11_beside_169 k285 k) x4 (nI P) (bst V P i).1 (nI (bst V P i).2) (nI i) (nI (cnt (fun j => decide (V j = V i)) P)) M := by
        intro d
        induction d with
        | zero =>
          intro k2 j hd hj hk3
          obtain ⟨k2, rfl⟩ : ∃ f', k2 = f' + 1 := ⟨k2 - 1, by omega⟩
          obtain rfl : j = P := by omega
          simp (disch := omega) only [ev_ck, ev_ci, ev_cv, ev_lt_, ↓reduceIte, ev_lens, ev_ix, ev_nz, ev_cl, ev_cll, ev_add, ev_addl, ev_ladd, ev_mul, ev_mull, ev_lmul, ev_sub, ev_subl, ev_lsub, ev_lt, ev_ltl, ev_llt, ev_le, ev_lel, ev_lle, ev_eq, ev_eql, ev_leq, ev_nm1, ev_nm5, ev_m1n, ev_neg1, ev_ltT, ev_ltF, ev_leT, ev_leF, ev_eqT, ev_eqF, ev_one0, ev_zero1, Nat.reduceAdd, Nat.reduceMul, Nat.reduceSub, ea_pI_eq, ev_pIn, ev_pIe, ea_pI_r, eq_self, fX11_beside_182]
        | succ d ih2 =>
          intro k2 j hd hj hk3
          obtain ⟨k2, rfl⟩ : ∃ f', k2 = f' + 1 := ⟨k2 - 1, by omega⟩
          have nx2 := ih2 k2 (j + 1) (by omega) (by omega) (by omega)
          have vj := hV j (by omega)
          rw [cnt_s] at nx2
          by_cases hz : V j = V i
          · rw [if_pos (decide_eq_true hz)] at nx2
            simp (disch := omega) only [ev_ck, ev_ci, ev_cv, ev_lt_, ↓reduceIte, ev_lens, ev_ix, ev_nz, ev_cl, ev_cll, ev_add, ev_addl, ev_ladd, ev_mul, ev_mull, ev_lmul, ev_sub, ev_subl, ev_lsub, ev_lt, ev_ltl, ev_llt, ev_le, ev_lel, ev_lle, ev_eq, ev_eql, ev_leq, ev_nm1, ev_nm5, ev_m1n, ev_neg1, ev_ltT, ev_ltF, ev_leT, ev_leF, ev_eqT, ev_eqF, ev_one0, ev_zero1, Nat.reduceAdd, Nat.reduceMul, Nat.reduceSub, ea_pI_eq, ev_pIn, ev_pIe, ea_pI_r, eq_self, fX11_beside_182, vi', vj, eq_true (hz.trans hux), fX11_beside_223]
            exact nx2
          · rw [if_neg (fun h => hz (of_decide_eq_true h))] at nx2
            have hzx : ¬ V j = nI x := fun h => hz (h.trans hux.symm)
            simp (disch := omega) only [ev_ck, ev_ci, ev_cv, ev_lt_, ↓reduceIte, ev_lens, ev_ix, ev_nz, ev_cl, ev_cll, ev_add, ev_addl, ev_ladd, ev_mul, ev_mull, ev_lmul, ev_sub, ev_subl, ev_lsub, ev_lt, ev_ltl, ev_llt, ev_le, ev_lel, ev_lle, ev_eq, ev_eql, ev_leq, ev_nm1, ev_nm5, ev_m1n, ev_neg1, ev_ltT, ev_ltF, ev_leT, ev_leF, ev_eqT, ev_eqF, ev_one0, ev_zero1, Nat.reduceAdd, Nat.reduceMul, Nat.reduceSub, ea_pI_eq, ev_pIn, ev_pIe, ea_pI_r, eq_self, fX11_beside_182, vi', vj, eq_false hzx, fX11_beside_223]
            exact nx2
      refine (show fX11_beside_182 _ ea_N x4 (nI P) _ _ (nI i) 0 0 M = _ from l2 P ea_N 0 (by omega) (by omega) (by unfold ea_N; omega)).trans ?_
      exact step
end BS
