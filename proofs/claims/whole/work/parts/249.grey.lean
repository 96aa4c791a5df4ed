def tlk (f : Nat → Nat → Nat) (L : List (Nat × Nat)) (bound k : Nat) : Bool := decide (mx (f k) L ≤ mn (f k) L + bound)
/-- GREY -/
def grv (f : Nat → Nat → Nat) (L : List (Nat × Nat)) (bound c : Nat) : Nat := match L with
  | [] => 50
  | e :: R => if (tlk f (e :: R) bound 0 && (tlk f (e :: R) bound 1 && tlk f (e :: R) bound 2)) = true then (mn (f c) (e :: R) + mx (f c) (e :: R)) / 2 else 50
section GR
variable {M : eM} {a cc th : Nat} {n : Nat → Nat} {v : Nat → Nat → Nat} {o w q : Nat → Nat} {l t r : Nat → Nat → Nat} {g : Nat → Nat → Bool}
theorem px_grey (ha : pn_f a) {f : Nat → Nat → Nat} (hf : ∀ c x, f c x ≤ 99) {L : List (Nat × Nat)} (hS : SX M a f L) (h6 : M.1 a 6 = nI L.length) (hl : L.length ≤ 3420) {bound c : Nat} (hb : bound ≤ 99) (hc : c < 3) : fX3_greyShade a (nI bound) (nI c) M = some (nI (grv f L bound c), M) := by
  obtain ⟨l4, l5, -⟩ := pn_lf2 ha
  have st : ∀ (k i : Nat) (x3 : Int32), i < 3 → fX3_greyShade_16 (fX3_greyShade_55 a) a (k + 1) (nI bound) (nI c) x3 (nI i) M = fX3_greyShade_16 (fX3_greyShade_55 a) a k (nI bound) (nI c) (x3 &&& (if tlk f L bound i = true then 1 else 0)) (nI (i + 1)) M := by
    intro k i x3 hi
    obtain ⟨s1, s2⟩ := hS i hi
    have b1 := mn_le (hf i) L
    have b2 := mx_le (hf i) L
    have w1 : (nI bound < nI (mx (f i) L) - nI (mn (f i) L)) = (bound + mn (f i) L < mx (f i) L) := by
      apply propext
      rw [Int32.lt_iff_toInt_lt, nI_toInt (by omega), pk_sub_toInt (by omega) (by omega)]
      omega
    rw [fX3_greyShade_16]
    by_cases h : bound + mn (f i) L < mx (f i) L
    · rw [show tlk f L bound i = false from decide_eq_false (by omega)]
      simp (disch := omega) only [ev_ck, ev_ci, ev_cv, ev_lt_, ↓reduceIte, ev_lens, ev_ix, ev_nz, ev_cl, ev_cll, ev_add, ev_addl, ev_ladd, ev_mul, ev_mull, ev_lmul, ev_subl, ev_lsub, ev_lt, ev_ltl, ev_llt, ev_le, ev_lel, ev_lle, ev_eq, ev_eql, ev_leq, ev_nm1, ev_nm5, ev_m1n, ev_neg1, ev_ltT, ev_ltF, ev_leT, ev_leF, ev_eqT, ev_eqF, ev_one0, ev_zero1, Nat.reduceAdd, Nat.reduceMul, Nat.reduceSub, ea_pI_eq, ev_pIn, ev_pIe, ea_pI_r, eq_self, l4, l5, s1, s2, w1, fX3_greyShade_47, Bool.false_eq_true]
    · rw [show tlk f L bound i = true from decide_eq_true (by omega)]
      simp (disch := omega) only [ev_ck, ev_ci, ev_cv, ev_lt_, ↓reduceIte, ev_lens, ev_ix, ev_nz, ev_cl, ev_cll, ev_add, ev_addl, ev_ladd, ev_mul, ev_mull, ev_lmul, ev_subl, ev_lsub, ev_lt, ev_ltl, ev_llt, ev_le, ev_lel, ev_lle, ev_eq, ev_eql, ev_leq, ev_nm1, ev_nm5, ev_m1n, ev_neg1, ev_ltT, ev_ltF, ev_leT, ev_leF, ev_eqT, ev_eqF, ev_one0, ev_zero1, Nat.reduceAdd, Nat.reduceMul, Nat.reduceSub, ea_pI_eq, ev_pIn, ev_pIe, ea_pI_r, eq_self, l4, l5, s1, s2, w1, fX3_greyShade_47]
  have all : ∀ x3 : Int32, fX3_greyShade_12 a (nI bound) (nI c) x3 M = fX3_greyShade_55 a (nI c) (((x3 &&& (if tlk f L bound 0 = true then 1 else 0)) &&& (if tlk f L bound 1 = true then 1 else 0)) &&& (if tlk f L bound 2 = true then 1 else 0)) M := by
    intro x3
    unfold fX3_greyShade_12
    show fX3_greyShade_16 _ a (99996 + 1 + 1 + 1 + 1) (nI bound) (nI c) x3 (nI 0) M = _
    rw [st _ 0 _ (by decide), st _ 1 _ (by decide), st _ 2 _ (by decide), fX3_greyShade_16, if_pos (by decide)]
  have z : ∀ p1 p2 p3 : Bool, ((((0 : Int32) &&& (if p1 = true then 1 else 0)) &&& (if p2 = true then 1 else 0)) &&& (if p3 = true then 1 else 0)) = 0 := by decide
  have u : ∀ p1 p2 p3 : Bool, ((((1 : Int32) &&& (if p1 = true then 1 else 0)) &&& (if p2 = true then 1 else 0)) &&& (if p3 = true then 1 else 0)) = if (p1 && (p2 && p3)) = true then 1 else 0 := by decide
  unfold fX3_greyShade fX3_greyShade_0
  cases L with
  | nil =>
    have h6 : M.1 a 6 = 0 := h6
    rw [h6, if_pos (by decide), all, z]
    unfold fX3_greyShade_55
    rw [if_pos rfl]
    rfl
  | cons e R =>
    have h6 : M.1 a 6 = nI (R.length + 1) := h6
    have hl : R.length + 1 ≤ 3420 := hl
    obtain ⟨s1, s2⟩ := hS c hc
    have b1 := mn_le (hf c) (e :: R)
    have b2 := mx_le (hf c) (e :: R)
    rw [h6]
    simp (disch := omega) only [ev_ck, ev_ci, ev_cv, ev_lt_, ↓reduceIte, ev_lens, ev_ix, ev_nz, ev_cl, ev_cll, ev_add, ev_addl, ev_ladd, ev_mul, ev_mull, ev_lmul, ev_sub, ev_subl, ev_lsub, ev_lt, ev_ltl, ev_llt, ev_le, ev_lel, ev_lle, ev_eq, ev_eql, ev_leq, ev_nm1, ev_nm5, ev_m1n, ev_neg1, ev_ltT, ev_ltF, ev_leT, ev_leF, ev_eqT, ev_eqF, ev_one0, ev_zero1, Nat.reduceAdd, Nat.reduceMul, Nat.reduceSub, ea_pI_eq, ev_pIn, ev_pIe, ea_pI_r, eq_self]
    rw [all, u]
    show fX3_greyShade_55 a (nI c) _ M = some (nI (if (tlk f (e :: R) bound 0 && (tlk f (e :: R) bound 1 && tlk f (e :: R) bound 2)) = true then (mn (f c) (e :: R) + mx (f c) (e :: R)) / 2 else 50), M)
    unfold fX3_greyShade_55
    by_cases h : (tlk f (e :: R) bound 0 && (tlk f (e :: R) bound 1 && tlk f (e :: R) bound 2)) = true
    · rw [if_pos h, if_pos h]
      simp (disch := omega) only [ev_ck, ev_ci, ev_cv, ev_lt_, ↓reduceIte, ev_lens, ev_ix, ev_nz, ev_cl, ev_cll, ev_add, ev_addl, ev_ladd, ev_mul, ev_mull, ev_lmul, ev_sub, ev_subl, ev_lsub, ev_lt, ev_ltl, ev_llt, ev_le, ev_lel, ev_lle, ev_eq, ev_eql, ev_leq, ev_nm1, ev_nm5, ev_m1n, ev_neg1, ev_ltT, ev_ltF, ev_leT, ev_leF, ev_eqT, ev_eqF, ev_one0, ev_zero1, Nat.reduceAdd, Nat.reduceMul, Nat.reduceSub, ea_pI_eq, ev_pIn, ev_pIe, ea_pI_r, eq_self, l4, l5, s1, s2, ev_divl]
    · rw [if_neg h, if_neg h, if_pos rfl]
      rfl
theorem py_grey (hC : Ctx M cc n v th o w q l t r) {L : List (Nat × Nat)} (hL : FL M v L) (hLm : ∀ e, e ∈ L → e.1 < th) (hLl : L.length ≤ 3420) {bound c : Nat} (hb : bound ≤ 99) (hc : c < 3) : fX11_greyOf (nI bound) (nI c) M = some (nI (grv (fun c x => sp_col v o w x 0 c) L bound c), M) := by
  have sp := fun (c : Nat) (hc : c < 3) (b : Int32) => py_span hC hL hLm hLl hc b
  have hf : ∀ c x, (fun c x => sp_col v o w x 0 c) c x ≤ 99 := fun c x => sp_col_le
  have sp : ∀ c, c < 3 → ∀ b : Int32, fX11_spanEnd (nI c) b M = some (sEnd ((fun c x => sp_col v o w x 0 c) c) b L, M) := sp
  generalize (fun c x => sp_col v o w x 0 c) = f at sp hf
  unfold fX11_greyOf fX11_greyOf_0
  cases L with
  | nil =>
    have h6 : M.1 100 33 = 0 := hL.1
    rw [h6, if_pos rfl]
    rfl
  | cons e R =>
    have h6 : M.1 100 33 = nI (R.length + 1) := hL.1
    have hLl : R.length + 1 ≤ 3420 := hLl
    rw [h6]
    simp (disch := omega) only [ev_ck, ev_ci, ev_cv, ev_lt_, ↓reduceIte, ev_lens, ev_ix, ev_nz, ev_cl, ev_cll, ev_add, ev_addl, ev_ladd, ev_mul, ev_mull, ev_lmul, ev_sub, ev_subl, ev_lsub, ev_lt, ev_ltl, ev_llt, ev_le, ev_lel, ev_lle, ev_eq, ev_eql, ev_leq, ev_nm1, ev_nm5, ev_m1n, ev_neg1, ev_ltT, ev_ltF, ev_leT, ev_leF, ev_eqT, ev_eqF, ev_one0, ev_zero1, Nat.reduceAdd, Nat.reduceMul, Nat.reduceSub, ea_pI_eq, ev_pIn, ev_pIe, ea_pI_r, eq_self]
    have s0 : ∀ c, c < 3 → fX11_spanEnd (nI c) 0 M = some (nI (mn (f c) (e :: R)), M) := fun c hc => sp c hc 0
    have s1 : ∀ c, c < 3 → fX11_spanEnd (nI c) 1 M = some (nI (mx (f c) (e :: R)), M) := fun c hc => sp c hc 1
    have st : ∀ (k i : Nat), i < 3 → fX11_greyOf_12 fX11_greyOf_43 (k + 1) (nI bound) (nI c) (nI i) M = if tlk f (e :: R) bound i = true then fX11_greyOf_12 fX11_greyOf_43 k (nI bound) (nI c) (nI (i + 1)) M else some (50, M) := by
      intro k i hi
      have b1 := mn_le (hf i) (e :: R)
      have b2 := mx_le (hf i) (e :: R)
      have b3 := mn_mx (f := f i) (e :: R) (List.cons_ne_nil _ _)
      have q0 := s0 i hi
      have q1 := s1 i hi
      rw [fX11_greyOf_12]
      by_cases h : mx (f i) (e :: R) ≤ mn (f i) (e :: R) + bound
      · rw [show tlk f (e :: R) bound i = true from decide_eq_true h]
        simp (disch := omega) only [ev_ck, ev_ci, ev_cv, ev_lt_, ↓reduceIte, ev_lens, ev_ix, ev_nz, ev_cl, ev_cll, ev_add, ev_addl, ev_ladd, ev_mul, ev_mull, ev_lmul, ev_sub, ev_subl, ev_lsub, ev_lt, ev_ltl, ev_llt, ev_le, ev_lel, ev_lle, ev_eq, ev_eql, ev_leq, ev_nm1, ev_nm5, ev_m1n, ev_neg1, ev_ltT, ev_ltF, ev_leT, ev_leF, ev_eqT, ev_eqF, ev_one0, ev_zero1, Nat.reduceAdd, Nat.reduceMul, Nat.reduceSub, ea_pI_eq, ev_pIn, ev_pIe, ea_pI_r, eq_self, q0, q1]
      · rw [show tlk f (e :: R) bound i = false from decide_eq_false h]
        simp (disch := omega) only [ev_ck, ev_ci, ev_cv, ev_lt_, ↓reduceIte, ev_lens, ev_ix, ev_nz, ev_cl, ev_cll, ev_add, ev_addl, ev_ladd, ev_mul, ev_mull, ev_lmul, ev_sub, ev_subl, ev_lsub, ev_lt, ev_ltl, ev_llt, ev_le, ev_lel, ev_lle, ev_eq, ev_eql, ev_leq, ev_nm1, ev_nm5, ev_m1n, ev_neg1, ev_ltT, ev_ltF, ev_leT, ev_leF, ev_eqT, ev_eqF, ev_one0, ev_zero1, Nat.reduceAdd, Nat.reduceMul, Nat.reduceSub, ea_pI_eq, ev_pIn, ev_pIe, ea_pI_r, eq_self, q0, q1, Bool.false_eq_true]
    show fX11_greyOf_12 _ (99996 + 1 + 1 + 1 + 1) (nI bound) (nI c) (nI 0) M = some (nI (if (tlk f (e :: R) bound 0 && (tlk f (e :: R) bound 1 && tlk f (e :: R) bound 2)) = true then (mn (f c) (e :: R) + mx (f c) (e :: R)) / 2 else 50), M)
    rw [st _ 0 (by decide), st _ 1 (by decide), st _ 2 (by decide)]
    by_cases h0 : tlk f (e :: R) bound 0 = true
    · by_cases h1 : tlk f (e :: R) bound 1 = true
      · by_cases h2 : tlk f (e :: R) bound 2 = true
        · have b1 := mn_le (hf c) (e :: R)
          have b2 := mx_le (hf c) (e :: R)
          rw [if_pos h0, if_pos h1, if_pos h2, if_pos (by rw [h0, h1, h2]; rfl), fX11_greyOf_12, if_pos (by decide)]
          simp (disch := omega) only [ev_ck, ev_ci, ev_cv, ev_lt_, ↓reduceIte, ev_lens, ev_ix, ev_nz, ev_cl, ev_cll, ev_add, ev_addl, ev_ladd, ev_mul, ev_mull, ev_lmul, ev_sub, ev_subl, ev_lsub, ev_lt, ev_ltl, ev_llt, ev_le, ev_lel, ev_lle, ev_eq, ev_eql, ev_leq, ev_nm1, ev_nm5, ev_m1n, ev_neg1, ev_ltT, ev_ltF, ev_leT, ev_leF, ev_eqT, ev_eqF, ev_one0, ev_zero1, Nat.reduceAdd, Nat.reduceMul, Nat.reduceSub, ea_pI_eq, ev_pIn, ev_pIe, ea_pI_r, eq_self, fX11_greyOf_43, s0 c hc, s1 c hc, ev_divl]
        · rw [if_pos h0, if_pos h1, if_neg h2, if_neg (by rw [h0, h1, Bool.eq_false_iff.mpr h2]; decide)]
          rfl
      · rw [if_pos h0, if_neg h1, if_neg (by rw [h0, Bool.eq_false_iff.mpr h1]; simp)]
        rfl
    · rw [if_neg h0, if_neg (by rw [Bool.eq_false_iff.mpr h0]; simp)]
      rfl
/-- nothing is known of a CELL -/
theorem px_blank (hC : Ctx M cc n v th o w q l t r) {cell known : Nat} (hcell : cell < 48) (hk : known < 1000) : fX8_isBlank 30 (nI cell) (nI known) M = some (if sgs q l t r cell known = [] then 1 else 0, M) := by
  have hok := hC.2.1.1
  have hLX := hC.2.1.2.1
  have hq1 := hok.2.1
  have pre : ∀ k d, sg_upto q l t r cell known k ≠ [] → sg_upto q l t r cell known (k + d) ≠ [] := by
    intro k d h
    induction d with
    | zero => exact h
    | succ d ih =>
      intro e
      have e : sg_upto q l t r cell known (k + d) ++ sg_try q t r cell known (k + d) = [] := e
      exact ih (List.append_eq_nil_iff.mp e).1
  have full : ∀ k, k ≤ q 1 → sg_upto q l t r cell known k ≠ [] → sgs q l t r cell known ≠ [] := by
    intro k hk h
    have := pre k (q 1 - k) h
    rw [show k + (q 1 - k) = q 1 by omega] at this
    exact this
  have lp : ∀ (d f j : Nat), q 1 - j = d → j ≤ q 1 → d < f → sg_upto q l t r cell known j = [] → fX8_isBlank_32 30 f (nI cell) (nI known) (nI j) M = some (if sgs q l t r cell known = [] then 1 else 0, M) := by
    intro d
    induction d with
    | zero =>
      intro f j hd hj hf he
      obtain ⟨f, rfl⟩ : ∃ f', f = f' + 1 := ⟨f - 1, by omega⟩
      obtain rfl : j = q 1 := by omega
      rw [if_pos (show sgs q l t r cell known = [] from he)]
      simp (disch := omega) only [ev_ck, ev_ci, ev_cv, ev_lt_, ↓reduceIte, ev_lens, ev_ix, ev_nz, ev_cl, ev_cll, ev_add, ev_addl, ev_ladd, ev_mul, ev_mull, ev_lmul, ev_sub, ev_subl, ev_lsub, ev_lt, ev_ltl, ev_llt, ev_le, ev_lel, ev_lle, ev_eq, ev_eql, ev_leq, ev_nm1, ev_nm5, ev_m1n, ev_neg1, ev_ltT, ev_ltF, ev_leT, ev_leF, ev_eqT, ev_eqF, ev_one0, ev_zero1, Nat.reduceAdd, Nat.reduceMul, Nat.reduceSub, ea_pI_eq, ev_pIn, ev_pIe, ea_pI_r, eq_self, fX8_isBlank_32, hLX.1.2.1]
    | succ d ih =>
      intro f j hd hj hf he
      obtain ⟨f, rfl⟩ : ∃ f', f = f' + 1 := ⟨f - 1, by omega⟩
      have g0 : M.1 32 (6 * j) = nI (t j 0) := hLX.2.2.1 j 0 (by omega) (by decide)
      have g1 : M.1 32 (6 * j + 1) = nI (t j 1) := hLX.2.2.1 j 1 (by omega) (by decide)
      obtain ⟨b0, b1, -⟩ := hok.2.2.2.2.2.1 j (by omega)
      have es : sg_upto q l t r cell known (j + 1) = sg_try q t r cell known j := by show sg_upto q l t r cell known j ++ _ = _; rw [he, List.nil_append]
      by_cases c0 : t j 0 ≤ known
      · by_cases c1 : t j 1 = cell
        · have hne := full (j + 1) (by omega) (by rw [es]; unfold sg_try; rw [if_pos c0, if_pos c1]; exact List.cons_ne_nil _ _)
          rw [if_neg hne]
          simp (disch := omega) only [ev_ck, ev_ci, ev_cv, ev_lt_, ↓reduceIte, ev_lens, ev_ix, ev_nz, ev_cl, ev_cll, ev_add, ev_addl, ev_ladd, ev_mul, ev_mull, ev_lmul, ev_sub, ev_subl, ev_lsub, ev_lt, ev_ltl, ev_llt, ev_le, ev_lel, ev_lle, ev_eq, ev_eql, ev_leq, ev_nm1, ev_nm5, ev_m1n, ev_neg1, ev_ltT, ev_ltF, ev_leT, ev_leF, ev_eqT, ev_eqF, ev_one0, ev_zero1, Nat.reduceAdd, Nat.reduceMul, Nat.reduceSub, ea_pI_eq, ev_pIn, ev_pIe, ea_pI_r, eq_self, fX8_isBlank_32, hLX.1.2.1, fX8_isTriedOf, fX8_isTriedOf_0, Nat.mul_comm j 6, g0, g1]
        · have nx := ih f (j + 1) (by omega) (by omega) (by omega) (by rw [es]; unfold sg_try; rw [if_pos c0, if_neg c1])
          simp (disch := omega) only [ev_ck, ev_ci, ev_cv, ev_lt_, ↓reduceIte, ev_lens, ev_ix, ev_nz, ev_cl, ev_cll, ev_add, ev_addl, ev_ladd, ev_mul, ev_mull, ev_lmul, ev_sub, ev_subl, ev_lsub, ev_lt, ev_ltl, ev_llt, ev_le, ev_lel, ev_lle, ev_eq, ev_eql, ev_leq, ev_nm1, ev_nm5, ev_m1n, ev_neg1, ev_ltT, ev_ltF, ev_leT, ev_leF, ev_eqT, ev_eqF, ev_one0, ev_zero1, Nat.reduceAdd, Nat.reduceMul, Nat.reduceSub, ea_pI_eq, ev_pIn, ev_pIe, ea_pI_r, eq_self, fX8_isBlank_32, hLX.1.2.1, fX8_isTriedOf, fX8_isTriedOf_0, Nat.mul_comm j 6, g0, g1]
          exact nx
      · have nx := ih f (j + 1) (by omega) (by omega) (by omega) (by rw [es]; unfold sg_try; rw [if_neg c0])
        simp (disch := omega) only [ev_ck, ev_ci, ev_cv, ev_lt_, ↓reduceIte, ev_lens, ev_ix, ev_nz, ev_cl, ev_cll, ev_add, ev_addl, ev_ladd, ev_mul, ev_mull, ev_lmul, ev_sub, ev_subl, ev_lsub, ev_lt, ev_ltl, ev_llt, ev_le, ev_lel, ev_lle, ev_eq, ev_eql, ev_leq, ev_nm1, ev_nm5, ev_m1n, ev_neg1, ev_ltT, ev_ltF, ev_leT, ev_leF, ev_eqT, ev_eqF, ev_one0, ev_zero1, Nat.reduceAdd, Nat.reduceMul, Nat.reduceSub, ea_pI_eq, ev_pIn, ev_pIe, ea_pI_r, eq_self, fX8_isBlank_32, hLX.1.2.1, fX8_isTriedOf, fX8_isTriedOf_0, Nat.mul_comm j 6, g0, g1]
        exact nx
  have lk : ∀ side, side ≤ 1 → ∀ (k : Int32 → eM → Option (Int32 × eM)), ea_ci (fX8_latestLook 30 (nI cell) (nI side) (nI known) M) (fun r2 M3 => ea_ci (fX8_isSeen 30 r2 M3) k) = k (if sg_look l (lst (lkp l cell side known) (q 0)) side = [] then 0 else 1) M := by
    intro side hs k
    rw [px_look (Or.inl rfl) hok hLX (by omega) (by omega) (by omega), ev_ci, px_seen (Or.inl rfl) hok hLX (fun i hi => (lst_lt hi).1), ev_ci]
    congr 1
    cases hz : lst (lkp l cell side known) (q 0) with
    | none => rfl
    | some i =>
      show (if decide (l i 6 ≠ 1) = true then (1 : Int32) else 0) = if (if l i 6 = 1 then [] else [lw l i side]) = [] then 0 else 1
      by_cases h : l i 6 = 1
      · rw [if_pos h, if_pos rfl, if_neg (by simp [h])]
      · rw [if_neg h, if_neg (List.cons_ne_nil _ _), if_pos (by simp [h])]
  have lk0 : ∀ (k : Int32 → eM → Option (Int32 × eM)), ea_ci (fX8_latestLook 30 (nI cell) 0 (nI known) M) (fun r2 M3 => ea_ci (fX8_isSeen 30 r2 M3) k) = k (if sg_look l (lst (lkp l cell 0 known) (q 0)) 0 = [] then 0 else 1) M := lk 0 (by decide)
  have lk1 : ∀ (k : Int32 → eM → Option (Int32 × eM)), ea_ci (fX8_latestLook 30 (nI cell) 1 (nI known) M) (fun r2 M3 => ea_ci (fX8_isSeen 30 r2 M3) k) = k (if sg_look l (lst (lkp l cell 1 known) (q 0)) 1 = [] then 0 else 1) M := lk 1 (by decide)
  unfold fX8_isBlank fX8_isBlank_0
  rw [lk0]
  by_cases h0 : sg_look l (lst (lkp l cell 0 known) (q 0)) 0 = []
  · rw [if_pos h0, if_pos rfl, lk1]
    by_cases h1 : sg_look l (lst (lkp l cell 1 known) (q 0)) 1 = []
    · rw [if_pos h1, if_pos rfl]
      exact lp (q 1) ea_N 0 (by omega) (by omega) (by unfold ea_N; omega) (by show sg_look _ _ _ ++ sg_look _ _ _ = []; rw [h0, h1]; rfl)
    · rw [if_neg h1, if_neg (by decide), if_neg (full 0 (by omega) (fun e => h1 (List.append_eq_nil_iff.mp e).2))]
  · rw [if_neg h0, if_neg (by decide), if_neg (full 0 (by omega) (fun e => h0 (List.append_eq_nil_iff.mp e).1))]
end GR
