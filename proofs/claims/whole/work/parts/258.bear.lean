/-- the greatest place up to k of which B holds -/
def gqt (B : Nat → Bool) : Nat → Nat
  | 0 => 0
  | k + 1 => if B (k + 1) = true then k + 1 else gqt B k
theorem gq_s (B : Nat → Bool) (k : Nat) : gqt B (k + 1) = if B (k + 1) = true then k + 1 else gqt B k := rfl
theorem gq_le (B : Nat → Bool) : ∀ k, gqt B k ≤ k
  | 0 => Nat.le_refl _
  | k + 1 => by
    rw [gq_s]
    have := gq_le B k
    by_cases h : B (k + 1) = true
    · rw [if_pos h]; omega
    · rw [if_neg h]; omega
theorem gq_ok {B : Nat → Bool} (h0 : B 0 = true) : ∀ k, B (gqt B k) = true
  | 0 => h0
  | k + 1 => by
    rw [gq_s]
    by_cases h : B (k + 1) = true
    · rw [if_pos h]; exact h
    · rw [if_neg h]; exact gq_ok h0 k
theorem gq_out {B : Nat → Bool} : ∀ k y, gqt B k < y → y ≤ k → B y = false
  | 0, y, h1, h2 => by have := Nat.lt_of_lt_of_le h1 h2; exact absurd this (Nat.lt_irrefl _)
  | k + 1, y, h1, h2 => by
    rw [gq_s] at h1
    by_cases h : B (k + 1) = true
    · rw [if_pos h] at h1; omega
    · rw [if_neg h] at h1
      rcases Nat.lt_or_ge k y with q | q
      · have e : y = k + 1 := by omega
        rw [e]; exact Bool.eq_false_iff.mpr h
      · exact gq_out k y h1 q
theorem gq_eq {B : Nat → Bool} {k y : Nat} (h1 : y ≤ k) (h2 : B y = true) (h3 : ∀ z, y < z → z ≤ k → B z = false) (h0 : B 0 = true) : gqt B k = y := by
  have a := gq_le B k
  have b := gq_ok h0 k
  rcases Nat.lt_or_ge (gqt B k) y with q | q
  · have := gq_out k y q h1
    rw [h2] at this
    cases this
  · rcases Nat.lt_or_ge y (gqt B k) with q2 | q2
    · have := h3 _ q2 a
      rw [b] at this
      cases this
    · omega
theorem gq_3 {B0 B1 B2 : Nat → Bool} (z0 : B0 0 = true) (z1 : B1 0 = true) (z2 : B2 0 = true) (d0 : ∀ a b, a ≤ b → B0 b = true → B0 a = true) (d1 : ∀ a b, a ≤ b → B1 b = true → B1 a = true) (k : Nat) : gqt (fun y => B0 y && (B1 y && B2 y)) k = gqt B2 (gqt B1 (gqt B0 k)) := by
  have a0 := gq_le B0 k
  have a1 := gq_le B1 (gqt B0 k)
  have a2 := gq_le B2 (gqt B1 (gqt B0 k))
  refine gq_eq (by omega) ?_ (fun z h1 h2 => ?_) (by rw [z0, z1, z2]; rfl)
  · show (B0 _ && (B1 _ && B2 _)) = true
    rw [d0 _ (gqt B0 k) (by omega) (gq_ok z0 k), d1 _ (gqt B1 (gqt B0 k)) a2 (gq_ok z1 _), gq_ok z2]
    rfl
  · show (B0 z && (B1 z && B2 z)) = false
    rcases Nat.lt_or_ge (gqt B1 (gqt B0 k)) z with q | q
    · rcases Nat.lt_or_ge (gqt B0 k) z with q2 | q2
      · rw [gq_out k z q2 h2]; rfl
      · rw [gq_out _ z q q2, Bool.false_and, Bool.and_false]
    · rw [gq_out _ z h1 q, Bool.and_false, Bool.and_false]
def bB (v : Nat → Nat → Nat) (o w : Nat → Nat) (lt bd x now c y : Nat) : Bool := decide (sp_col v o w x (now + y * lt) c ≤ sp_col v o w x now c + bd)
def bB3 (v : Nat → Nat → Nat) (o w : Nat → Nat) (lt bd x now y : Nat) : Bool := bB v o w lt bd x now 0 y && (bB v o w lt bd x now 1 y && bB v o w lt bd x now 2 y)
theorem bB_0 {v : Nat → Nat → Nat} {o w : Nat → Nat} {lt bd x now c : Nat} : bB v o w lt bd x now c 0 = true := by
  unfold bB
  rw [Nat.zero_mul, Nat.add_zero]
  exact decide_eq_true (Nat.le_add_right _ _)
theorem bB_d {v : Nat → Nat → Nat} {o w : Nat → Nat} {lt bd x now c : Nat} : ∀ a b, a ≤ b → bB v o w lt bd x now c b = true → bB v o w lt bd x now c a = true := by
  intro a b h hb
  have hb := of_decide_eq_true hb
  have hm : a * lt ≤ b * lt := Nat.mul_le_mul_right lt h
  have := sp_col_mono (v := v) (o := o) (w := w) (x := x) (c := c) (show now + a * lt ≤ now + b * lt by omega)
  exact decide_eq_true (by omega)
section BE
variable {M : eM} {cc th : Nat} {n : Nat → Nat} {v : Nat → Nat → Nat} {o w q : Nat → Nat} {l t r : Nat → Nat → Nat} {s kn cell : Nat}
theorem px_borne (hC : Ctx M cc n v th o w q l t r) {x now lt bd most : Nat} (hx : x < th) (hn : now ≤ 237600) (hl : lt ≤ 99) (hb : bd ≤ 99) (hm : most ≤ 400) : fX10_yearsBorne (nI x) (nI now) (nI lt) (nI bd) (nI most) M = some (nI (gqt (bB3 v o w lt bd x now) most), M) := by
  have sh := fun (h c : Nat) (hh : h < 2 ^ 31) (hc : c < 3) => px_shade hC.1.2.1 hC.1.1 hC.1.2.2.2.2.1 hC.1.2.2.2.1 hC.1.2.2.2.2.2.2.2.1 hC.1.2.2.2.2.2.2.1.1 hx hh hc
  have inn : ∀ (k61 : Int32 → Int32 → Int32 → Int32 → Int32 → Int32 → eM → Option (Int32 × eM)) (c : Nat), c < 3 → ∀ (y k : Nat), y ≤ 400 → y < k → fX10_yearsBorne_29 k61 k (nI x) (nI now) (nI lt) (nI bd) (nI y) (nI c) (nI (sp_col v o w x now c + bd)) M = k61 (nI x) (nI now) (nI lt) (nI bd) (nI (gqt (bB v o w lt bd x now c) y)) (nI c) M := by
    intro k61 c hc y
    induction y with
    | zero =>
      intro k hy hk
      obtain ⟨k, rfl⟩ : ∃ f', k = f' + 1 := ⟨k - 1, by omega⟩
      simp (disch := omega) only [ev_ck, ev_ci, ev_cv, ev_lt_, ↓reduceIte, ev_lens, ev_ix, ev_nz, ev_cl, ev_cll, ev_add, ev_addl, ev_ladd, ev_mul, ev_mull, ev_lmul, ev_sub, ev_subl, ev_lsub, ev_lt, ev_ltl, ev_llt, ev_le, ev_lel, ev_lle, ev_eq, ev_eql, ev_leq, ev_nm1, ev_nm5, ev_m1n, ev_neg1, ev_ltT, ev_ltF, ev_leT, ev_leF, ev_eqT, ev_eqF, ev_one0, ev_zero1, Nat.reduceAdd, Nat.reduceMul, Nat.reduceSub, ea_pI_eq, ev_pIn, ev_pIe, ea_pI_r, eq_self, fX10_yearsBorne_29]
      rfl
    | succ y ih =>
      intro k hy hk
      obtain ⟨k, rfl⟩ : ∃ f', k = f' + 1 := ⟨k - 1, by omega⟩
      have hmul : (y + 1) * lt ≤ 400 * 99 := Nat.mul_le_mul hy hl
      have s1 := sh (now + (y + 1) * lt) c (by omega) hc
      have b1 := sp_col_le (v := v) (o := o) (w := w) (x := x) (h := now + (y + 1) * lt) (c := c)
      have b2 := sp_col_le (v := v) (o := o) (w := w) (x := x) (h := now) (c := c)
      rw [gq_s]
      have eb : bB v o w lt bd x now c (y + 1) = decide (sp_col v o w x (now + (y + 1) * lt) c ≤ sp_col v o w x now c + bd) := rfl
      rw [fX10_yearsBorne_29]
      by_cases h : sp_col v o w x (now + (y + 1) * lt) c ≤ sp_col v o w x now c + bd
      · rw [eb, decide_eq_true h, if_pos (rfl : true = true)]
        simp (disch := omega) only [ev_ck, ev_ci, ev_cv, ev_lt_, ↓reduceIte, ev_lens, ev_ix, ev_nz, ev_cl, ev_cll, ev_add, ev_addl, ev_ladd, ev_mul, ev_mull, ev_lmul, ev_sub, ev_subl, ev_lsub, ev_lt, ev_ltl, ev_llt, ev_le, ev_lel, ev_lle, ev_eq, ev_eql, ev_leq, ev_nm1, ev_nm5, ev_m1n, ev_neg1, ev_ltT, ev_ltF, ev_leT, ev_leF, ev_eqT, ev_eqF, ev_one0, ev_zero1, Nat.reduceAdd, Nat.reduceMul, Nat.reduceSub, ea_pI_eq, ev_pIn, ev_pIe, ea_pI_r, eq_self, s1]
      · rw [eb, decide_eq_false h, if_neg Bool.false_ne_true, ← ih k (by omega) (by omega)]
        simp (disch := omega) only [ev_ck, ev_ci, ev_cv, ev_lt_, ↓reduceIte, ev_lens, ev_ix, ev_nz, ev_cl, ev_cll, ev_add, ev_addl, ev_ladd, ev_mul, ev_mull, ev_lmul, ev_sub, ev_subl, ev_lsub, ev_lt, ev_ltl, ev_llt, ev_le, ev_lel, ev_lle, ev_eq, ev_eql, ev_leq, ev_nm1, ev_nm5, ev_m1n, ev_neg1, ev_ltT, ev_ltF, ev_leT, ev_leF, ev_eqT, ev_eqF, ev_one0, ev_zero1, Nat.reduceAdd, Nat.reduceMul, Nat.reduceSub, ea_pI_eq, ev_pIn, ev_pIe, ea_pI_r, eq_self, s1]
        rw [pz_m1, show nI (y + 1) - 1 = nI (y + 1 - 1) from ev_sub (b := 1) (by omega), Nat.add_sub_cancel]
  have st : ∀ (k c y : Nat), c < 3 → y ≤ 400 → fX10_yearsBorne_7 (k + 1) (nI x) (nI now) (nI lt) (nI bd) (nI y) (nI c) M = fX10_yearsBorne_7 k (nI x) (nI now) (nI lt) (nI bd) (nI (gqt (bB v o w lt bd x now c) y)) (nI (c + 1)) M := by
    intro k c y hc hy
    have s1 := sh now c (by omega) hc
    rw [fX10_yearsBorne_7, if_neg (by rw [show (3 : Int32) = nI 3 from rfl, pn_leI (by omega) (by omega)]; omega), s1, ev_ci, ev_add]
    refine (inn _ c hc y ea_N hy (by unfold ea_N; omega)).trans ?_
    unfold fX10_yearsBorne_61
    rw [show nI c + 1 = nI (c + 1) from nI_add c 1]
  have g0 := gq_le (bB v o w lt bd x now 0) most
  have g1 := gq_le (bB v o w lt bd x now 1) (gqt (bB v o w lt bd x now 0) most)
  unfold fX10_yearsBorne fX10_yearsBorne_0
  show fX10_yearsBorne_7 (99996 + 1 + 1 + 1 + 1) (nI x) (nI now) (nI lt) (nI bd) (nI most) (nI 0) M = _
  rw [st _ 0 _ (by decide) hm, st _ 1 _ (by decide) (by omega), st _ 2 _ (by decide) (by omega), fX10_yearsBorne_7, if_pos (by decide), ← gq_3 bB_0 bB_0 bB_0 bB_d bB_d]
  rfl
theorem py_bears (hC : Ctx M cc n v th o w q l t r) {x now lt bd y : Nat} (hx : x < th) (hn : now ≤ 237600) (hl : lt ≤ 99) (hb : bd ≤ 99) (hy : y ≤ 400) : fX11_bears (nI x) (nI now) (nI (y * lt)) (nI bd) M = some (if bB3 v o w lt bd x now y = true then 1 else 0, M) := by
  have sh := fun (h c : Nat) (hh : h < 2 ^ 31) (hc : c < 3) => py_colour hC.1.2.2.2.2.2.1 hC.1.2.2.2.1 hC.1.2.2.2.2.2.2.2.2 hC.1.2.2.2.2.2.2.1.1 hx hh hc
  have hmul : y * lt ≤ 400 * 99 := Nat.mul_le_mul hy hl
  have st : ∀ (k c : Nat), c < 3 → fX11_bears_3 (k + 1) (nI x) (nI now) (nI (y * lt)) (nI bd) (nI c) M = if bB v o w lt bd x now c y = true then fX11_bears_3 k (nI x) (nI now) (nI (y * lt)) (nI bd) (nI (c + 1)) M else some (0, M) := by
    intro k c hc
    have s1 := sh (now + y * lt) c (by omega) hc
    have s2 := sh now c (by omega) hc
    have b1 := sp_col_le (v := v) (o := o) (w := w) (x := x) (h := now + y * lt) (c := c)
    have mo := sp_col_mono (v := v) (o := o) (w := w) (x := x) (c := c) (show now ≤ now + y * lt by omega)
    have eb : bB v o w lt bd x now c y = decide (sp_col v o w x (now + y * lt) c ≤ sp_col v o w x now c + bd) := rfl
    rw [fX11_bears_3]
    by_cases h : sp_col v o w x (now + y * lt) c ≤ sp_col v o w x now c + bd
    · rw [eb, decide_eq_true h]
      simp (disch := omega) only [ev_ck, ev_ci, ev_cv, ev_lt_, ↓reduceIte, ev_lens, ev_ix, ev_nz, ev_cl, ev_cll, ev_add, ev_addl, ev_ladd, ev_mul, ev_mull, ev_lmul, ev_sub, ev_subl, ev_lsub, ev_lt, ev_ltl, ev_llt, ev_le, ev_lel, ev_lle, ev_eq, ev_eql, ev_leq, ev_nm1, ev_nm5, ev_m1n, ev_neg1, ev_ltT, ev_ltF, ev_leT, ev_leF, ev_eqT, ev_eqF, ev_one0, ev_zero1, Nat.reduceAdd, Nat.reduceMul, Nat.reduceSub, ea_pI_eq, ev_pIn, ev_pIe, ea_pI_r, eq_self, s1, s2]
    · rw [eb, decide_eq_false h]
      simp (disch := omega) only [ev_ck, ev_ci, ev_cv, ev_lt_, ↓reduceIte, ev_lens, ev_ix, ev_nz, ev_cl, ev_cll, ev_add, ev_addl, ev_ladd, ev_mul, ev_mull, ev_lmul, ev_sub, ev_subl, ev_lsub, ev_lt, ev_ltl, ev_llt, ev_le, ev_lel, ev_lle, ev_eq, ev_eql, ev_leq, ev_nm1, ev_nm5, ev_m1n, ev_neg1, ev_ltT, ev_ltF, ev_leT, ev_leF, ev_eqT, ev_eqF, ev_one0, ev_zero1, Nat.reduceAdd, Nat.reduceMul, Nat.reduceSub, ea_pI_eq, ev_pIn, ev_pIe, ea_pI_r, eq_self, s1, s2, Bool.false_eq_true]
  unfold fX11_bears fX11_bears_0 bB3
  show fX11_bears_3 (99996 + 1 + 1 + 1 + 1) (nI x) (nI now) (nI (y * lt)) (nI bd) (nI 0) M = _
  rw [st _ 0 (by decide), st _ 1 (by decide), st _ 2 (by decide)]
  cases bB v o w lt bd x now 0 y with
  | false => rfl
  | true =>
    cases bB v o w lt bd x now 1 y with
    | false => rfl
    | true =>
      cases bB v o w lt bd x now 2 y with
      | false => rfl
      | true =>
        rw [if_pos rfl, if_pos rfl, if_pos rfl, fX11_bears_3, if_pos (by decide)]
        rfl
theorem bB3_d {v : Nat → Nat → Nat} {o w : Nat → Nat} {lt bd x now : Nat} : ∀ a b, a ≤ b → bB3 v o w lt bd x now b = true → bB3 v o w lt bd x now a = true := by
  intro a b h hb
  unfold bB3 at hb ⊢
  rw [Bool.and_eq_true, Bool.and_eq_true] at hb ⊢
  exact ⟨bB_d a b h hb.1, bB_d a b h hb.2.1, bB_d a b h hb.2.2⟩
theorem py_borne (hC : Ctx M cc n v th o w q l t r) {x now lt bd most : Nat} (hx : x < th) (hn : now ≤ 237600) (hl : lt ≤ 99) (hb : bd ≤ 99) (hm : most ≤ 400) (h119 : M.1 119 0 = nI x) {x1 x5 : Int32} (k127 : Int32 → Int32 → Int32 → Int32 → Int32 → eM → Option (Int32 × eM)) : ∀ (d k y : Nat), most - y = d → y ≤ most → d < k → bB3 v o w lt bd x now y = true → fX11_bear_92 k127 k x1 (nI lt) (nI bd) (nI most) x5 (nI now) (nI y) M = k127 x1 (nI lt) (nI bd) x5 (nI (gqt (bB3 v o w lt bd x now) most)) M := by
  have z0 : bB3 v o w lt bd x now 0 = true := by unfold bB3; rw [bB_0, bB_0, bB_0]; rfl
  intro d
  induction d with
  | zero =>
    intro k y hd hy hk hB
    obtain ⟨k, rfl⟩ : ∃ f', k = f' + 1 := ⟨k - 1, by omega⟩
    obtain rfl : y = most := by omega
    rw [gq_eq (Nat.le_refl _) hB (fun z h1 h2 => by omega) z0]
    simp (disch := omega) only [ev_ck, ev_ci, ev_cv, ev_lt_, ↓reduceIte, ev_lens, ev_ix, ev_nz, ev_cl, ev_cll, ev_add, ev_addl, ev_ladd, ev_mul, ev_mull, ev_lmul, ev_sub, ev_subl, ev_lsub, ev_lt, ev_ltl, ev_llt, ev_le, ev_lel, ev_lle, ev_eq, ev_eql, ev_leq, ev_nm1, ev_nm5, ev_m1n, ev_neg1, ev_ltT, ev_ltF, ev_leT, ev_leF, ev_eqT, ev_eqF, ev_one0, ev_zero1, Nat.reduceAdd, Nat.reduceMul, Nat.reduceSub, ea_pI_eq, ev_pIn, ev_pIe, ea_pI_r, eq_self, fX11_bear_92]
  | succ d ih =>
    intro k y hd hy hk hB
    obtain ⟨k, rfl⟩ : ∃ f', k = f' + 1 := ⟨k - 1, by omega⟩
    have be := py_bears hC hx hn hl hb (y := y + 1) (by omega)
    rw [fX11_bear_92]
    cases hB1 : bB3 v o w lt bd x now (y + 1) with
    | false =>
      rw [hB1] at be
      rw [gq_eq hy hB (fun z h1 h2 => by
        rw [Bool.eq_false_iff]
        intro hz
        have := bB3_d (y + 1) z (by omega) hz
        rw [hB1] at this
        cases this) z0]
      simp (disch := omega) only [ev_ck, ev_ci, ev_cv, ev_lt_, ↓reduceIte, ev_lens, ev_ix, ev_nz, ev_cl, ev_cll, ev_add, ev_addl, ev_ladd, ev_mul, ev_mull, ev_lmul, ev_sub, ev_subl, ev_lsub, ev_lt, ev_ltl, ev_llt, ev_le, ev_lel, ev_lle, ev_eq, ev_eql, ev_leq, ev_nm1, ev_nm5, ev_m1n, ev_neg1, ev_ltT, ev_ltF, ev_leT, ev_leF, ev_eqT, ev_eqF, ev_one0, ev_zero1, Nat.reduceAdd, Nat.reduceMul, Nat.reduceSub, ea_pI_eq, ev_pIn, ev_pIe, ea_pI_r, eq_self, h119, be, Bool.false_eq_true]
    | true =>
      rw [hB1] at be
      have nx := ih k (y + 1) (by omega) (by omega) (by omega) hB1
      simp (disch := omega) only [ev_ck, ev_ci, ev_cv, ev_lt_, ↓reduceIte, ev_lens, ev_ix, ev_nz, ev_cl, ev_cll, ev_add, ev_addl, ev_ladd, ev_mul, ev_mull, ev_lmul, ev_sub, ev_subl, ev_lsub, ev_lt, ev_ltl, ev_llt, ev_le, ev_lel, ev_lle, ev_eq, ev_eql, ev_leq, ev_nm1, ev_nm5, ev_m1n, ev_neg1, ev_ltT, ev_ltF, ev_leT, ev_leF, ev_eqT, ev_eqF, ev_one0, ev_zero1, Nat.reduceAdd, Nat.reduceMul, Nat.reduceSub, ea_pI_eq, ev_pIn, ev_pIe, ea_pI_r, eq_self, h119, be]
      exact nx
def bf (n : Nat → Nat) (v : Nat → Nat → Nat) (th : Nat) (o w q : Nat → Nat) (l t r : Nat → Nat → Nat) (s lt bd cell y : Nat) : Nat := match LL n v th o w q l t r s 999 cell with
  | [e] => gqt (bB3 v o w lt bd e.1 (sp_hours n v s (cell % n 0) (yrP v e.2) 0)) y
  | _ => y
def yv (f : Nat → Nat → Nat) : Nat → Nat
  | 0 => 400
  | k + 1 => f k (yv f k)
theorem ct_len {g : Nat → Nat → Bool} {pc : Nat} (hp : pc ≤ 4) (hg : ∀ x p, pc ≤ p → g x p = false) : ∀ j, ct g j ≤ (pl g pc j).length
  | 0 => Nat.le_refl _
  | j + 1 => by
    have ih := ct_len hp hg j
    obtain ⟨-, -, p3, -⟩ := plk_pop (x := j) hp (hg j)
    rw [pl_s, List.length_append]
    show cnt _ j + (if decide (mk (g j) ≠ 0) = true then 1 else 0) ≤ _
    unfold ct at ih
    by_cases h : mk (g j) = 0
    · rw [if_neg (by simp [h])]; omega
    · have : 0 < (plk (g j) j pc).length := List.length_pos_iff.mpr (fun q => h (p3.mp q))
      rw [if_pos (by simp [h])]; omega
theorem blank_len (hC : Ctx M cc n v th o w q l t r) (hS : sgs q l t r cell kn = []) : (LL n v th o w q l t r s kn cell).length ≠ 1 := by
  have h7 := hC.1.2.2.2.1.2.2.2.2.2.2.2.1
  have hTh := hC.1.2.2.2.2.2.2.1
  rcases Nat.eq_zero_or_pos (n 4) with h4 | h4
  · have := hTh.2.1 h4
    unfold LL
    rw [this]
    exact (by decide : ([] : List (Nat × Nat)).length ≠ 1)
  · have h9 := hTh.2.2.1 h4
    have := ct_len (g := gk n v o w q l t r s kn cell) (show n 7 + 1 ≤ 4 by omega) (fun x p hp => gk_f hp) th
    rw [blank_ct hS] at this
    unfold LL
    omega
theorem bf_ne {lt bd y : Nat} (h : (LL n v th o w q l t r s 999 cell).length ≠ 1) : bf n v th o w q l t r s lt bd cell y = y := by
  unfold bf
  cases hL : LL n v th o w q l t r s 999 cell with
  | nil => rfl
  | cons e R =>
    cases R with
    | nil => rw [hL] at h; exact absurd rfl h
    | cons e2 R2 => rfl
theorem bf_one {lt bd y : Nat} {e : Nat × Nat} (h : LL n v th o w q l t r s 999 cell = [e]) : bf n v th o w q l t r s lt bd cell y = gqt (bB3 v o w lt bd e.1 (sp_hours n v s (cell % n 0) (yrP v e.2) 0)) y := by
  unfold bf
  rw [h]
theorem bf_le {lt bd y : Nat} : bf n v th o w q l t r s lt bd cell y ≤ y := by
  by_cases h : (LL n v th o w q l t r s 999 cell).length = 1
  · obtain ⟨e, he⟩ := List.length_eq_one_iff.mp h
    rw [bf_one he]
    exact gq_le _ _
  · rw [bf_ne h]; exact Nat.le_refl _
theorem yv_le {lt bd : Nat} : ∀ k, yv (bf n v th o w q l t r s lt bd) k ≤ 400
  | 0 => Nat.le_refl _
  | k + 1 => Nat.le_trans bf_le (yv_le k)
end BE
theorem sz_bear (x1 x2 x3 : Int32) : ea_st InvZ (fX10_bear x1 x2 x3) (fX11_bear x1 x2 x3) := by
  refine ea_qz (fun M c n v th o w q l t r hC => ?_)
  have ho := hC.1.2.2.2.1
  have h5 := ho.2.2.2.2.2.1
  have h7 := ho.2.2.2.2.2.2.2.1
  have hth := hC.1.2.2.2.2.2.2.1.1.1
  have hcl : n 0 * n 1 ≤ 48 := Nat.mul_le_mul ho.1.2 ho.2.1.2
  have hcc := hC.1.1
  have gx1 := gx_story hC.1 x1
  have gx2 : fX10_isWithin x2 1 99 M = some (pb x2 (nI 1) (nI 100 - 1), M) := px_in x2 1 99 M
  have gx3 : fX10_isWithin x3 0 99 M = some (pb x3 0 (nI 100 - 1), M) := px_in x3 0 99 M
  rcases pb_01 x1 0 (nI (n 5) - 1) with b1 | b1
  · refine ⟨-2, ⟨M, by unfold fX10_bear fX10_bear_0; rw [gx1, b1, ev_ci, if_pos rfl], Kp.rf M⟩, fun M1 h1 => ⟨M1, ?_, Kp.rf M1⟩⟩
    have gy1 := gy_story h1.1 x1
    unfold fX11_bear fX11_bear_0
    rw [gy1, b1, ev_ci, if_pos rfl]
  rcases pb_01 x2 (nI 1) (nI 100 - 1) with b2 | b2
  · refine ⟨-2, ⟨M, by unfold fX10_bear fX10_bear_0; rw [gx1, b1, ev_ci, if_neg (by decide), gx2, b2, ev_ci, if_pos rfl], Kp.rf M⟩, fun M1 h1 => ⟨M1, ?_, Kp.rf M1⟩⟩
    have gy1 := gy_story h1.1 x1
    have gy2 : fX11_in x2 1 99 M1 = some (pb x2 (nI 1) (nI 100 - 1), M1) := py_in x2 1 99 M1
    unfold fX11_bear fX11_bear_0
    rw [gy1, b1, ev_ci, if_neg (by decide), gy2, b2, ev_ci, if_pos rfl]
  rcases pb_01 x3 0 (nI 100 - 1) with b3 | b3
  · refine ⟨-2, ⟨M, by unfold fX10_bear fX10_bear_0; rw [gx1, b1, ev_ci, if_neg (by decide), gx2, b2, ev_ci, if_neg (by decide), gx3, b3, ev_ci, if_pos rfl], Kp.rf M⟩, fun M1 h1 => ⟨M1, ?_, Kp.rf M1⟩⟩
    have gy1 := gy_story h1.1 x1
    have gy2 : fX11_in x2 1 99 M1 = some (pb x2 (nI 1) (nI 100 - 1), M1) := py_in x2 1 99 M1
    have gy3 := gy_bound (M := M1) x3
    unfold fX11_bear fX11_bear_0
    rw [gy1, b1, ev_ci, if_neg (by decide), gy2, b2, ev_ci, if_neg (by decide), gy3, b3, ev_ci, if_pos rfl]
  obtain ⟨s, hs, rfl⟩ := pb_nat0 (by omega) b1
  obtain ⟨lt, hlt1, hlt2, rfl⟩ := pb_nat (by decide) (by decide) b2
  obtain ⟨bd, hbd, rfl⟩ := pb_nat0 (by decide) b3
  have yl := fun k => yv_le (n := n) (v := v) (th := th) (o := o) (w := w) (q := q) (l := l) (t := t) (r := r) (s := s) (lt := lt) (bd := bd) k
  refine ⟨nI (yv (bf n v th o w q l t r s lt bd) (n 0 * n 1)), ?_, fun M3 h3 => ?_⟩
  · have gcs := fun M1 (h1 : Ctx M1 c n v th o w q l t r) => gx_cells h1.1
    generalize hN : n 0 * n 1 = N at hcl gcs
    have lp : ∀ (d k i : Nat) (M1 : eM), N - i = d → i ≤ N → d < k → Kp M M1 → ∃ M2, fX10_bear_39 k (nI s) (nI lt) (nI bd) (nI (yv (bf n v th o w q l t r s lt bd) i)) (nI i) M1 = some (nI (yv (bf n v th o w q l t r s lt bd) N), M2) ∧ Kp M M2 := by
      intro d
      induction d with
      | zero =>
        intro k i M1 hd hi hk hK
        obtain ⟨k, rfl⟩ : ∃ f', k = f' + 1 := ⟨k - 1, by omega⟩
        obtain rfl : i = N := by omega
        have gc := gcs M1 (hC.kp hK)
        refine ⟨M1, ?_, hK⟩
        rw [fX10_bear_39, (hC.kp hK).1.2.1]
        simp (disch := omega) only [ev_ck, ev_ci, ev_cv, ev_lt_, ↓reduceIte, ev_lens, ev_ix, ev_nz, ev_cl, ev_cll, ev_add, ev_addl, ev_ladd, ev_mul, ev_mull, ev_lmul, ev_sub, ev_subl, ev_lsub, ev_lt, ev_ltl, ev_llt, ev_le, ev_lel, ev_lle, ev_eq, ev_eql, ev_leq, ev_nm1, ev_nm5, ev_m1n, ev_neg1, ev_ltT, ev_ltF, ev_leT, ev_leF, ev_eqT, ev_eqF, ev_one0, ev_zero1, Nat.reduceAdd, Nat.reduceMul, Nat.reduceSub, ea_pI_eq, ev_pIn, ev_pIe, ea_pI_r, eq_self, pn_is hcc, gc]
      | succ d ih =>
        intro k i M1 hd hi hk hK
        obtain ⟨k, rfl⟩ : ∃ f', k = f' + 1 := ⟨k - 1, by omega⟩
        have hC1 := hC.kp hK
        have gc := gcs M1 hC1
        have bl := px_blank hC1 (cell := i) (known := 999) (by omega) (by omega)
        have bl : fX8_isBlank 30 (nI i) 999 M1 = _ := bl
        have ey : yv (bf n v th o w q l t r s lt bd) (i + 1) = bf n v th o w q l t r s lt bd i (yv (bf n v th o w q l t r s lt bd) i) := rfl
        rw [fX10_bear_39, hC1.1.2.1]
        by_cases hz : sgs q l t r i 999 = []
        · rw [if_pos hz] at bl
          obtain ⟨M2, r1, r2⟩ := ih k (i + 1) M1 (by omega) (by omega) (by omega) hK
          rw [ey, bf_ne (blank_len hC hz)] at r1
          refine ⟨M2, ?_, r2⟩
          simp (disch := omega) only [ev_ck, ev_ci, ev_cv, ev_lt_, ↓reduceIte, ev_lens, ev_ix, ev_nz, ev_cl, ev_cll, ev_add, ev_addl, ev_ladd, ev_mul, ev_mull, ev_lmul, ev_sub, ev_subl, ev_lsub, ev_lt, ev_ltl, ev_llt, ev_le, ev_lel, ev_lle, ev_eq, ev_eql, ev_leq, ev_nm1, ev_nm5, ev_m1n, ev_neg1, ev_ltT, ev_ltF, ev_leT, ev_leF, ev_eqT, ev_eqF, ev_one0, ev_zero1, Nat.reduceAdd, Nat.reduceMul, Nat.reduceSub, ea_pI_eq, ev_pIn, ev_pIe, ea_pI_r, eq_self, pn_is hcc, gc, bl, fX10_bear_150]
          exact r1
        · rw [if_neg hz] at bl
          obtain ⟨M2, e2, f2, r2⟩ := px_find (a := 50) (Or.inl rfl) hC1 (cell := i) (known := 999) (by omega) (by omega) hs
          have e2 : fX3_find 50 (nI i) (nI s) 999 M1 = some M2 := e2
          have hC2 := hC1.kp (r2.kp (Or.inl rfl))
          have f6 : M2.1 50 6 = nI (LL n v th o w q l t r s 999 i).length := f2.2.1
          have f9 : M2.1 50 9 = hd1 (LL n v th o w q l t r s 999 i) := f2.2.2.2.2
          have pp := px_pair (i := 0) (Or.inl rfl) hC2 f2.1 (by decide) 0
          have pp : fX3_pairPart 50 0 0 M2 = some (prt v 0 (LL n v th o w q l t r s 999 i)[0]?, M2) := pp
          have hl := LL_len hC (s := s) (kn := 999) (cell := i)
          by_cases h1 : (LL n v th o w q l t r s 999 i).length = 1
          · obtain ⟨e, he⟩ := List.length_eq_one_iff.mp h1
            have hm := LL_mem (show e ∈ LL n v th o w q l t r s 999 i by rw [he]; exact List.mem_cons_self)
            rw [he] at f6 f9 pp
            have f6 : M2.1 50 6 = 1 := f6
            have f9 : M2.1 50 9 = nI e.1 := f9
            have pp : fX3_pairPart 50 0 0 M2 = some (nI (yrP v e.2), M2) := pp
            have hcol := px_col hC2.1.2.2.2.2.1 ho (cell := i) (by omega)
            have hcl2 : i % n 0 < n 0 := Nat.mod_lt _ (by have := ho.1; omega)
            have hh := px_hours hcc hC2.1.2.2.2.2.1 ho hs hcl2 (yrP_le ho hm.2) (side := 0) (by decide)
            have hh : fX1_hoursOf c (nI s) (nI (i % n 0)) (nI (yrP v e.2)) 0 M2 = some (nI (sp_hours n v s (i % n 0) (yrP v e.2) 0), M2) := hh
            have hle := sp_hours_le ho hs hcl2 (year := yrP v e.2) (side := 0)
            have bo := px_borne hC2 hm.1 hle (lt := lt) (bd := bd) (by omega) (by omega) (yl i)
            obtain ⟨M3, r3, r4⟩ := ih k (i + 1) M2 (by omega) (by omega) (by omega) (hK.trans (r2.kp (Or.inl rfl)))
            rw [ey, bf_one he] at r3
            refine ⟨M3, ?_, r4⟩
            simp (disch := omega) only [ev_ck, ev_ci, ev_cv, ev_lt_, ↓reduceIte, ev_lens, ev_ix, ev_nz, ev_cl, ev_cll, ev_add, ev_addl, ev_ladd, ev_mul, ev_mull, ev_lmul, ev_sub, ev_subl, ev_lsub, ev_lt, ev_ltl, ev_llt, ev_le, ev_lel, ev_lle, ev_eq, ev_eql, ev_leq, ev_nm1, ev_nm5, ev_m1n, ev_neg1, ev_ltT, ev_ltF, ev_leT, ev_leF, ev_eqT, ev_eqF, ev_one0, ev_zero1, Nat.reduceAdd, Nat.reduceMul, Nat.reduceSub, ea_pI_eq, ev_pIn, ev_pIe, ea_pI_r, eq_self, pn_is hcc, gc, bl, e2, f6, hC2.1.2.1, hcol, pp, hh, f9, bo, fX10_bear_150]
            exact r3
          · obtain ⟨M3, r3, r4⟩ := ih k (i + 1) M2 (by omega) (by omega) (by omega) (hK.trans (r2.kp (Or.inl rfl)))
            rw [ey, bf_ne h1] at r3
            refine ⟨M3, ?_, r4⟩
            simp (disch := omega) only [ev_ck, ev_ci, ev_cv, ev_lt_, ↓reduceIte, ev_lens, ev_ix, ev_nz, ev_cl, ev_cll, ev_add, ev_addl, ev_ladd, ev_mul, ev_mull, ev_lmul, ev_sub, ev_subl, ev_lsub, ev_lt, ev_ltl, ev_llt, ev_le, ev_lel, ev_lle, ev_eq, ev_eql, ev_leq, ev_nm1, ev_nm5, ev_m1n, ev_neg1, ev_ltT, ev_ltF, ev_leT, ev_leF, ev_eqT, ev_eqF, ev_one0, ev_zero1, Nat.reduceAdd, Nat.reduceMul, Nat.reduceSub, ea_pI_eq, ev_pIn, ev_pIe, ea_pI_r, eq_self, pn_is hcc, gc, bl, e2, f6, fX10_bear_150]
            exact r3
    obtain ⟨M2, e2, k2⟩ := lp N ea_N 0 M (by omega) (by omega) (by unfold ea_N; omega) (Kp.rf M)
    refine ⟨M2, ?_, k2⟩
    unfold fX10_bear fX10_bear_0
    rw [gx1, b1, ev_ci, if_neg (by decide), gx2, b2, ev_ci, if_neg (by decide), gx3, b3, ev_ci, if_neg (by decide)]
    exact e2
  · have gcs := fun M1 (h1 : Ctx M1 c n v th o w q l t r) => gy_cells h1.1
    generalize hN : n 0 * n 1 = N at hcl gcs
    have lp : ∀ (d k i : Nat) (M1 : eM), N - i = d → i ≤ N → d < k → Kp M3 M1 → ∃ M2, fX11_bear_36 k (nI s) (nI lt) (nI bd) (nI (yv (bf n v th o w q l t r s lt bd) i)) (nI i) M1 = some (nI (yv (bf n v th o w q l t r s lt bd) N), M2) ∧ Kp M3 M2 := by
      intro d
      induction d with
      | zero =>
        intro k i M1 hd hi hk hK
        obtain ⟨k, rfl⟩ : ∃ f', k = f' + 1 := ⟨k - 1, by omega⟩
        obtain rfl : i = N := by omega
        have gc := gcs M1 (h3.kp hK)
        refine ⟨M1, ?_, hK⟩
        simp (disch := omega) only [ev_ck, ev_ci, ev_cv, ev_lt_, ↓reduceIte, ev_lens, ev_ix, ev_nz, ev_cl, ev_cll, ev_add, ev_addl, ev_ladd, ev_mul, ev_mull, ev_lmul, ev_sub, ev_subl, ev_lsub, ev_lt, ev_ltl, ev_llt, ev_le, ev_lel, ev_lle, ev_eq, ev_eql, ev_leq, ev_nm1, ev_nm5, ev_m1n, ev_neg1, ev_ltT, ev_ltF, ev_leT, ev_leF, ev_eqT, ev_eqF, ev_one0, ev_zero1, Nat.reduceAdd, Nat.reduceMul, Nat.reduceSub, ea_pI_eq, ev_pIn, ev_pIe, ea_pI_r, eq_self, fX11_bear_36, gc]
      | succ d ih =>
        intro k i M1 hd hi hk hK
        obtain ⟨k, rfl⟩ : ∃ f', k = f' + 1 := ⟨k - 1, by omega⟩
        have hC1 := h3.kp hK
        have gc := gcs M1 hC1
        obtain ⟨M2, e2, f2, g2, r2⟩ := py_findFits hC1 (cell := i) (known := 999) (by omega) (by omega) hs
        have e2 : fX11_findFits (nI i) (nI s) 999 M1 = some M2 := e2
        have f2 : FL M2 v (LL n v th o w q l t r s 999 i) := f2
        have hC2 := hC1.kp r2.kp
        have hl := LL_len hC (s := s) (kn := 999) (cell := i)
        have ey : yv (bf n v th o w q l t r s lt bd) (i + 1) = bf n v th o w q l t r s lt bd i (yv (bf n v th o w q l t r s lt bd) i) := rfl
        obtain ⟨M4, r3, r4⟩ := ih k (i + 1) M2 (by omega) (by omega) (by omega) (hK.trans r2.kp)
        refine ⟨M4, ?_, r4⟩
        rw [fX11_bear_36]
        by_cases h1 : (LL n v th o w q l t r s 999 i).length = 1
        · obtain ⟨e, he⟩ := List.length_eq_one_iff.mp h1
          have hm := LL_mem (show e ∈ LL n v th o w q l t r s 999 i by rw [he]; exact List.mem_cons_self)
          rw [he] at f2
          have f6 : M2.1 100 33 = 1 := f2.1
          have g119 : M2.1 119 0 = nI e.1 := (f2.2 0 (Nat.zero_lt_one)).1
          have g120 : M2.1 120 0 = nI (yrP v e.2) := (f2.2 0 (Nat.zero_lt_one)).2
          have e0 := hC2.1.2.2.2.2.2.1.1.1
          have hn0 := ho.1
          have hrm : nI i - nI i / nI (n 0) * nI (n 0) = nI (i % n 0) := ev_rem (by omega) (by omega) (by omega)
          have hcl2 : i % n 0 < n 0 := Nat.mod_lt _ (by omega)
          have hh := py_hours hC2.1.2.2.2.2.2.1 ho hs hcl2 (yrP_le ho hm.2) (side := 0) (by decide)
          have hh : fX11_hoursOf (nI s) (nI (i % n 0)) (nI (yrP v e.2)) 0 M2 = some (nI (sp_hours n v s (i % n 0) (yrP v e.2) 0), M2) := hh
          have hle := sp_hours_le ho hs hcl2 (year := yrP v e.2) (side := 0)
          have bo := py_borne hC2 hm.1 hle (lt := lt) (bd := bd) (by omega) (by omega) (yl i) g119 (x1 := nI s) (x5 := nI i) (fX11_bear_127 (fX11_bear_36 k)) (yv (bf n v th o w q l t r s lt bd) i) ea_N 0 (by omega) (by omega) (by unfold ea_N; have := yl i; omega) (by unfold bB3; rw [bB_0, bB_0, bB_0]; rfl)
          rw [ey, bf_one he] at r3
          rw [gc, ev_ci, if_neg (by rw [pn_leI (by omega) (by omega)]; omega), e2, ev_cv, f6, if_pos rfl, show (0 : Int32).toNatClampNeg = 0 from rfl, e0, ea_ck_t (pn_nz (by omega) (by omega)), hrm, g120, hh, ev_ci]
          refine (show fX11_bear_92 _ ea_N (nI s) (nI lt) (nI bd) _ (nI i) _ 0 M2 = _ from bo).trans ?_
          simp (disch := omega) only [ev_ck, ev_ci, ev_cv, ev_lt_, ↓reduceIte, ev_lens, ev_ix, ev_nz, ev_cl, ev_cll, ev_add, ev_addl, ev_ladd, ev_mul, ev_mull, ev_lmul, ev_sub, ev_subl, ev_lsub, ev_lt, ev_ltl, ev_llt, ev_le, ev_lel, ev_lle, ev_eq, ev_eql, ev_leq, ev_nm1, ev_nm5, ev_m1n, ev_neg1, ev_ltT, ev_ltF, ev_leT, ev_leF, ev_eqT, ev_eqF, ev_one0, ev_zero1, Nat.reduceAdd, Nat.reduceMul, Nat.reduceSub, ea_pI_eq, ev_pIn, ev_pIe, ea_pI_r, eq_self, fX11_bear_127, fX11_bear_131]
          exact r3
        · rw [ey, bf_ne h1] at r3
          have f6 := f2.1
          simp (disch := omega) only [ev_ck, ev_ci, ev_cv, ev_lt_, ↓reduceIte, ev_lens, ev_ix, ev_nz, ev_cl, ev_cll, ev_add, ev_addl, ev_ladd, ev_mul, ev_mull, ev_lmul, ev_sub, ev_subl, ev_lsub, ev_lt, ev_ltl, ev_llt, ev_le, ev_lel, ev_lle, ev_eq, ev_eql, ev_leq, ev_nm1, ev_nm5, ev_m1n, ev_neg1, ev_ltT, ev_ltF, ev_leT, ev_leF, ev_eqT, ev_eqF, ev_one0, ev_zero1, Nat.reduceAdd, Nat.reduceMul, Nat.reduceSub, ea_pI_eq, ev_pIn, ev_pIe, ea_pI_r, eq_self, gc, e2, f6, fX11_bear_131]
          exact r3
    obtain ⟨M2, e2, k2⟩ := lp N ea_N 0 M3 (by omega) (by omega) (by unfold ea_N; omega) (Kp.rf M3)
    refine ⟨M2, ?_, k2⟩
    have gy1 := gy_story h3.1 (nI s)
    have gy2 : fX11_in (nI lt) 1 99 M3 = some (pb (nI lt) (nI 1) (nI 100 - 1), M3) := py_in (nI lt) 1 99 M3
    have gy3 := gy_bound (M := M3) (nI bd)
    unfold fX11_bear fX11_bear_0
    rw [gy1, b1, ev_ci, if_neg (by decide), gy2, b2, ev_ci, if_neg (by decide), gy3, b3, ev_ci, if_neg (by decide)]
    exact e2
