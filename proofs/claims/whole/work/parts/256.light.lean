theorem sp_str_mono {v : Nat → Nat → Nat} {f h1 h2 : Nat} (h : h1 ≤ h2) : sp_str v f h2 ≤ sp_str v f h1 := by
  have key : ∀ a e, a / 2 ^ (h2 / e) ≤ a / 2 ^ (h1 / e) := fun a e => Nat.div_le_div_left (Nat.pow_le_pow_right (by decide) (Nat.div_le_div_right h)) (Nat.pow_pos (by decide))
  unfold sp_str
  exact Nat.add_le_add (key _ _) (key _ _)
theorem sp_tk_mono {v : Nat → Nat → Nat} {x h1 h2 c : Nat} (h : h1 ≤ h2) : sp_tk v x h2 c ≤ sp_tk v x h1 c := by
  unfold sp_tk
  by_cases q : x < 45
  · rw [if_pos q, if_pos q]
    exact Nat.div_le_div_right (Nat.mul_le_mul_left _ (sp_str_mono h))
  · rw [if_neg q, if_neg q]
    exact Nat.le_refl _
theorem sp_col_mono {v : Nat → Nat → Nat} {o w : Nat → Nat} {x h1 h2 c : Nat} (h : h1 ≤ h2) : sp_col v o w x h1 c ≤ sp_col v o w x h2 c := by
  have a := sp_tk_mono (v := v) (x := o x) (c := c) h
  have b := sp_tk_mono (v := v) (x := w x) (c := c) h
  unfold sp_col
  omega
def fsx (p : Nat → Bool) : Nat → Option Nat
  | 0 => none
  | k + 1 => match fsx p k with
    | some i => some i
    | none => if p k = true then some k else none
theorem fsx_s (p : Nat → Bool) (k : Nat) : fsx p (k + 1) = match fsx p k with
    | some i => some i
    | none => if p k = true then some k else none := rfl
theorem fsx_none {p : Nat → Bool} : ∀ k, (∀ i, i < k → p i = false) → fsx p k = none
  | 0, _ => rfl
  | k + 1, h => by rw [fsx_s, fsx_none k (fun i hi => h i (by omega)), h k (by omega)]; rfl
theorem fsx_at {p : Nat → Bool} {i : Nat} (h0 : ∀ j, j < i → p j = false) (h1 : p i = true) : ∀ d, fsx p (i + 1 + d) = some i
  | 0 => by rw [Nat.add_zero, fsx_s, fsx_none i h0, h1]; rfl
  | d + 1 => by rw [← Nat.add_assoc, fsx_s, fsx_at h0 h1 d]
theorem lst_non {p : Nat → Bool} : ∀ k, (∀ i, i < k → p i = false) → lst p k = none
  | 0, _ => rfl
  | k + 1, h => by
    show (if p k = true then some k else lst p k) = none
    rw [h k (by omega), if_neg (by decide)]
    exact lst_non k (fun i hi => h i (by omega))
theorem lst_at {p : Nat → Bool} {i : Nat} (h1 : p i = true) : ∀ d, (∀ j, i < j → j < i + 1 + d → p j = false) → lst p (i + 1 + d) = some i
  | 0, _ => by
    show (if p i = true then some i else lst p i) = some i
    rw [if_pos h1]
  | d + 1, h => by
    show (if p (i + 1 + d) = true then some (i + 1 + d) else lst p (i + 1 + d)) = some i
    rw [h (i + 1 + d) (by omega) (by omega), if_neg (by decide)]
    exact lst_at h1 d (fun j a b => h j a (by omega))
theorem ev_abs {a b : Nat} (ha : a ≤ 10000000) (hb : b ≤ 10000000) : ea_abs (nI a - nI b) = nI (if a < b then b - a else a - b) := by
  have e := pk_sub_toInt (a := a) (b := b) (by omega) (by omega)
  unfold ea_abs
  by_cases h : a < b
  · rw [if_neg (by rw [Int32.le_iff_toInt_le, e, show (0 : Int32).toInt = 0 from by decide]; omega), if_pos h]
    apply Int32.toInt_inj.mp
    rw [nI_toInt (by omega), Int32.zero_sub, Int32.neg_sub, pk_sub_toInt (by omega) (by omega)]
    omega
  · rw [if_neg h, ev_sub (by omega), if_pos (nI_pos' (by omega))]
section LB
variable {M : eM} {cc th : Nat} {n : Nat → Nat} {v : Nat → Nat → Nat} {o w q : Nat → Nat} {l t r : Nat → Nat → Nat} {i x : Nat}
/-- the class's test by colours -/
theorem px_past (hC : Ctx M cc n v th o w q l t r) (hi : i < q 0) (hg : l i 6 ≠ 1) (hx : x < th) {h : Nat} (hh : h < 2 ^ 31) {x3 : Int32} {Q : Nat → Bool} (hQ : ∀ c, c < 3 → (nI (sp_col v o w x h c) < nI (l i (3 + c)) + x3 ↔ Q c = false)) : fX10_isPast (nI x) (nI i) x3 (nI h) M = fX10_isPast_55 x3 (nI ((if Q 0 = true then 1 else 0) + (if Q 1 = true then 1 else 0) + (if Q 2 = true then 1 else 0))) M := by
  have hok := hC.2.1.1
  have sh := fun c (hc : c < 3) => px_shade hC.1.2.1 hC.1.1 hC.1.2.2.2.2.1 hC.1.2.2.2.1 hC.1.2.2.2.2.2.2.2.1 hC.1.2.2.2.2.2.2.1.1 hx hh hc
  have lk : ∀ c, c < 3 → fX8_lookShade 30 (nI i) (nI c) M = some (nI (l i (3 + c)), M) := by
    intro c hc
    have := px_shadeL (Or.inl rfl) hok hC.2.1.2.1 (z := some i) (fun j hj => by cases hj; exact hi) hc
    have e : sp_ls l (some i) c = nI (l i (3 + c)) := if_neg hg
    rw [← e]
    exact this
  have st : ∀ (k c m : Nat), c < 3 → m ≤ 3 → fX10_isPast_6 fX10_isPast_55 (k + 1) (nI x) (nI i) x3 (nI h) (nI m) (nI c) M = fX10_isPast_6 fX10_isPast_55 k (nI x) (nI i) x3 (nI h) (nI (m + (if Q c = true then 1 else 0))) (nI (c + 1)) M := by
    intro k c m hc hm
    have s1 := sh c hc
    have s2 := lk c hc
    rw [fX10_isPast_6]
    cases hq : Q c with
    | false =>
      simp (disch := omega) only [ev_ck, ev_ci, ev_cv, ev_lt_, ↓reduceIte, ev_lens, ev_ix, ev_nz, ev_cl, ev_cll, ev_add, ev_addl, ev_ladd, ev_mul, ev_mull, ev_lmul, ev_sub, ev_subl, ev_lsub, ev_lt, ev_ltl, ev_llt, ev_le, ev_lel, ev_lle, ev_eq, ev_eql, ev_leq, ev_nm1, ev_nm5, ev_m1n, ev_neg1, ev_ltT, ev_ltF, ev_leT, ev_leF, ev_eqT, ev_eqF, ev_one0, ev_zero1, Nat.reduceAdd, Nat.reduceMul, Nat.reduceSub, ea_pI_eq, ev_pIn, ev_pIe, ea_pI_r, eq_self, s1, s2, eq_true ((hQ c hc).mpr hq), fX10_isPast_46, Bool.false_eq_true]
    | true =>
      have hn : ¬ (nI (sp_col v o w x h c) < nI (l i (3 + c)) + x3) := fun h => by have := (hQ c hc).mp h; rw [hq] at this; cases this
      simp (disch := omega) only [ev_ck, ev_ci, ev_cv, ev_lt_, ↓reduceIte, ev_lens, ev_ix, ev_nz, ev_cl, ev_cll, ev_add, ev_addl, ev_ladd, ev_mul, ev_mull, ev_lmul, ev_sub, ev_subl, ev_lsub, ev_lt, ev_ltl, ev_llt, ev_le, ev_lel, ev_lle, ev_eq, ev_eql, ev_leq, ev_nm1, ev_nm5, ev_m1n, ev_neg1, ev_ltT, ev_ltF, ev_leT, ev_leF, ev_eqT, ev_eqF, ev_one0, ev_zero1, Nat.reduceAdd, Nat.reduceMul, Nat.reduceSub, ea_pI_eq, ev_pIn, ev_pIe, ea_pI_r, eq_self, s1, s2, eq_false hn, fX10_isPast_46]
  have b3 : ∀ p : Bool, (if p = true then 1 else 0 : Nat) ≤ 1 := by decide
  unfold fX10_isPast fX10_isPast_0
  show fX10_isPast_6 _ (99996 + 1 + 1 + 1 + 1) (nI x) (nI i) x3 (nI h) (nI 0) (nI 0) M = _
  have b0 := b3 (Q 0)
  have b1 := b3 (Q 1)
  rw [st _ 0 _ (by decide) (by decide), st _ 1 _ (by decide) (by omega), st _ 2 _ (by decide) (by omega), fX10_isPast_6, if_pos (by decide), Nat.zero_add]
/-- where a monotone test begins to hold -/
theorem px_hp {x3 : Int32} {P : Nat → Bool} (hP : ∀ h, h < 2000 → fX10_isPast (nI x) (nI i) x3 (nI h) M = some (if P h = true then 1 else 0, M)) : ∃ R, fX10_hoursPast (nI x) (nI i) x3 M = some (nI R, M) ∧ R ≤ 2000 ∧ (R = 0 ∨ P (R - 1) = false) ∧ (R < 2000 → P R = true) := by
  have lp : ∀ (m k lo hi2 tn : Nat), hi2 - lo < 2 ^ m → m + tn ≤ 12 → m < k → lo ≤ hi2 → hi2 ≤ 2000 → (lo = 0 ∨ P (lo - 1) = false) → (hi2 < 2000 → P hi2 = true) → ∃ R, fX10_hoursPast_11 k (nI x) (nI i) x3 (nI lo) (nI hi2) (nI tn) M = some (nI R, M) ∧ R ≤ 2000 ∧ (R = 0 ∨ P (R - 1) = false) ∧ (R < 2000 → P R = true) := by
    intro m
    induction m with
    | zero =>
      intro k lo hi2 tn h1 h2 hk h3 h4 h5 h6
      obtain ⟨k, rfl⟩ : ∃ f', k = f' + 1 := ⟨k - 1, by omega⟩
      obtain rfl : lo = hi2 := by omega
      refine ⟨lo, ?_, h4, h5, h6⟩
      rw [fX10_hoursPast_11]
      by_cases ht : 12 ≤ tn
      · simp (disch := omega) only [ev_ck, ev_ci, ev_cv, ev_lt_, ↓reduceIte, ev_lens, ev_ix, ev_nz, ev_cl, ev_cll, ev_add, ev_addl, ev_ladd, ev_mul, ev_mull, ev_lmul, ev_sub, ev_subl, ev_lsub, ev_lt, ev_ltl, ev_llt, ev_le, ev_lel, ev_lle, ev_eq, ev_eql, ev_leq, ev_nm1, ev_nm5, ev_m1n, ev_neg1, ev_ltT, ev_ltF, ev_leT, ev_leF, ev_eqT, ev_eqF, ev_one0, ev_zero1, Nat.reduceAdd, Nat.reduceMul, Nat.reduceSub, ea_pI_eq, ev_pIn, ev_pIe, ea_pI_r, eq_self]
      · simp (disch := omega) only [ev_ck, ev_ci, ev_cv, ev_lt_, ↓reduceIte, ev_lens, ev_ix, ev_nz, ev_cl, ev_cll, ev_add, ev_addl, ev_ladd, ev_mul, ev_mull, ev_lmul, ev_sub, ev_subl, ev_lsub, ev_lt, ev_ltl, ev_llt, ev_le, ev_lel, ev_lle, ev_eq, ev_eql, ev_leq, ev_nm1, ev_nm5, ev_m1n, ev_neg1, ev_ltT, ev_ltF, ev_leT, ev_leF, ev_eqT, ev_eqF, ev_one0, ev_zero1, Nat.reduceAdd, Nat.reduceMul, Nat.reduceSub, ea_pI_eq, ev_pIn, ev_pIe, ea_pI_r, eq_self]
    | succ m ih =>
      intro k lo hi2 tn h1 h2 hk h3 h4 h5 h6
      obtain ⟨k, rfl⟩ : ∃ f', k = f' + 1 := ⟨k - 1, by omega⟩
      rw [Nat.pow_succ] at h1
      by_cases he : hi2 ≤ lo
      · obtain rfl : lo = hi2 := by omega
        refine ⟨lo, ?_, h4, h5, h6⟩
        rw [fX10_hoursPast_11]
        simp (disch := omega) only [ev_ck, ev_ci, ev_cv, ev_lt_, ↓reduceIte, ev_lens, ev_ix, ev_nz, ev_cl, ev_cll, ev_add, ev_addl, ev_ladd, ev_mul, ev_mull, ev_lmul, ev_sub, ev_subl, ev_lsub, ev_lt, ev_ltl, ev_llt, ev_le, ev_lel, ev_lle, ev_eq, ev_eql, ev_leq, ev_nm1, ev_nm5, ev_m1n, ev_neg1, ev_ltT, ev_ltF, ev_leT, ev_leF, ev_eqT, ev_eqF, ev_one0, ev_zero1, Nat.reduceAdd, Nat.reduceMul, Nat.reduceSub, ea_pI_eq, ev_pIn, ev_pIe, ea_pI_r, eq_self]
      · have hp := hP ((lo + hi2) / 2) (by omega)
        rw [fX10_hoursPast_11]
        cases hb : P ((lo + hi2) / 2) with
        | false =>
          rw [hb] at hp
          obtain ⟨R, r1, r2⟩ := ih k ((lo + hi2) / 2 + 1) hi2 (tn + 1) (by omega) (by omega) (by omega) (by omega) h4 (Or.inr hb) h6
          refine ⟨R, ?_, r2⟩
          simp (disch := omega) only [ev_ck, ev_ci, ev_cv, ev_lt_, ↓reduceIte, ev_lens, ev_ix, ev_nz, ev_cl, ev_cll, ev_add, ev_addl, ev_ladd, ev_mul, ev_mull, ev_lmul, ev_sub, ev_subl, ev_lsub, ev_lt, ev_ltl, ev_llt, ev_le, ev_lel, ev_lle, ev_eq, ev_eql, ev_leq, ev_nm1, ev_nm5, ev_m1n, ev_neg1, ev_ltT, ev_ltF, ev_leT, ev_leF, ev_eqT, ev_eqF, ev_one0, ev_zero1, Nat.reduceAdd, Nat.reduceMul, Nat.reduceSub, ea_pI_eq, ev_pIn, ev_pIe, ea_pI_r, eq_self, ev_divl, hp, Bool.false_eq_true, fX10_hoursPast_59]
          exact r1
        | true =>
          rw [hb] at hp
          obtain ⟨R, r1, r2⟩ := ih k lo ((lo + hi2) / 2) (tn + 1) (by omega) (by omega) (by omega) (by omega) (by omega) h5 (fun _ => hb)
          refine ⟨R, ?_, r2⟩
          simp (disch := omega) only [ev_ck, ev_ci, ev_cv, ev_lt_, ↓reduceIte, ev_lens, ev_ix, ev_nz, ev_cl, ev_cll, ev_add, ev_addl, ev_ladd, ev_mul, ev_mull, ev_lmul, ev_sub, ev_subl, ev_lsub, ev_lt, ev_ltl, ev_llt, ev_le, ev_lel, ev_lle, ev_eq, ev_eql, ev_leq, ev_nm1, ev_nm5, ev_m1n, ev_neg1, ev_ltT, ev_ltF, ev_leT, ev_leF, ev_eqT, ev_eqF, ev_one0, ev_zero1, Nat.reduceAdd, Nat.reduceMul, Nat.reduceSub, ea_pI_eq, ev_pIn, ev_pIe, ea_pI_r, eq_self, ev_divl, hp, fX10_hoursPast_59]
          exact r1
  exact lp 11 ea_N 0 2000 0 (by decide) (by decide) (by unfold ea_N; omega) (by omega) (by omega) (Or.inl rfl) (fun h => absurd h (Nat.lt_irrefl _))
theorem px_ws (hC : Ctx M cc n v th o w q l t r) (hi : i < q 0) (hg : l i 6 ≠ 1) (hx : x < th) {h : Nat} (hh : h ≤ 2000) : fX10_isWithinSlack (nI x) (nI i) (nI h) M = some (if (decide (h < 2000) && ok1 v o w (n 2) x h (lw l i 0)) = true then 1 else 0, M) := by
  have hok := hC.2.1.1
  have ho := hC.1.2.2.2.1
  have h2 := ho.2.2.1
  have sh := fun c (hc : c < 3) => px_shade hC.1.2.1 hC.1.1 hC.1.2.2.2.2.1 hC.1.2.2.2.1 hC.1.2.2.2.2.2.2.2.1 hC.1.2.2.2.2.2.2.1.1 hx (show h < 2 ^ 31 by omega) hc
  have lk : ∀ c, c < 3 → fX8_lookShade 30 (nI i) (nI c) M = some (nI (l i (3 + c)), M) := by
    intro c hc
    have := px_shadeL (Or.inl rfl) hok hC.2.1.2.1 (z := some i) (fun j hj => by cases hj; exact hi) hc
    have e : sp_ls l (some i) c = nI (l i (3 + c)) := if_neg hg
    rw [← e]
    exact this
  have e2 := hC.1.2.2.2.2.1.1.2.2.1
  have st : ∀ (k c : Nat), c < 3 → fX10_isWithinSlack_16 (k + 1) (nI x) (nI i) (nI h) (nI c) M = if near (sp_col v o w x h c) (lw l i 0 (2 + c)) (n 2) = true then fX10_isWithinSlack_16 k (nI x) (nI i) (nI h) (nI (c + 1)) M else some (0, M) := by
    intro k c hc
    have s1 := sh c hc
    have s2 := lk c hc
    have b1 := (hok.2.2.2.2.1 i hi).2.2.2.1 c hc
    have b2 := sp_col_le (v := v) (o := o) (w := w) (x := x) (h := h) (c := c)
    have ab := ev_abs (a := sp_col v o w x h c) (b := l i (3 + c)) (by omega) (by omega)
    rw [lw_c, near_d]
    have hb : (if sp_col v o w x h c < l i (3 + c) then l i (3 + c) - sp_col v o w x h c else sp_col v o w x h c - l i (3 + c)) < 2147483648 := by
      by_cases h : sp_col v o w x h c < l i (3 + c)
      · rw [if_pos h]; omega
      · rw [if_neg h]; omega
    generalize (if sp_col v o w x h c < l i (3 + c) then l i (3 + c) - sp_col v o w x h c else sp_col v o w x h c - l i (3 + c)) = dd at ab hb
    rw [fX10_isWithinSlack_16]
    by_cases hd : dd ≤ n 2
    · rw [decide_eq_true hd]
      simp (disch := omega) only [ev_ck, ev_ci, ev_cv, ev_lt_, ↓reduceIte, ev_lens, ev_ix, ev_nz, ev_cl, ev_cll, ev_add, ev_addl, ev_ladd, ev_mul, ev_mull, ev_lmul, ev_subl, ev_lsub, ev_lt, ev_ltl, ev_llt, ev_le, ev_lel, ev_lle, ev_eq, ev_eql, ev_leq, ev_nm1, ev_nm5, ev_m1n, ev_neg1, ev_ltT, ev_ltF, ev_leT, ev_leF, ev_eqT, ev_eqF, ev_one0, ev_zero1, Nat.reduceAdd, Nat.reduceMul, Nat.reduceSub, ea_pI_eq, ev_pIn, ev_pIe, ea_pI_r, eq_self, s1, s2, hC.1.2.1, pn_is hC.1.1, e2]
      rw [ab]
      simp (disch := omega) only [ev_ck, ev_ci, ev_cv, ev_lt_, ↓reduceIte, ev_lens, ev_ix, ev_nz, ev_cl, ev_cll, ev_add, ev_addl, ev_ladd, ev_mul, ev_mull, ev_lmul, ev_sub, ev_subl, ev_lsub, ev_lt, ev_ltl, ev_llt, ev_le, ev_lel, ev_lle, ev_eq, ev_eql, ev_leq, ev_nm1, ev_nm5, ev_m1n, ev_neg1, ev_ltT, ev_ltF, ev_leT, ev_leF, ev_eqT, ev_eqF, ev_one0, ev_zero1, Nat.reduceAdd, Nat.reduceMul, Nat.reduceSub, ea_pI_eq, ev_pIn, ev_pIe, ea_pI_r, eq_self]
    · rw [decide_eq_false hd]
      simp (disch := omega) only [ev_ck, ev_ci, ev_cv, ev_lt_, ↓reduceIte, ev_lens, ev_ix, ev_nz, ev_cl, ev_cll, ev_add, ev_addl, ev_ladd, ev_mul, ev_mull, ev_lmul, ev_subl, ev_lsub, ev_lt, ev_ltl, ev_llt, ev_le, ev_lel, ev_lle, ev_eq, ev_eql, ev_leq, ev_nm1, ev_nm5, ev_m1n, ev_neg1, ev_ltT, ev_ltF, ev_leT, ev_leF, ev_eqT, ev_eqF, ev_one0, ev_zero1, Nat.reduceAdd, Nat.reduceMul, Nat.reduceSub, ea_pI_eq, ev_pIn, ev_pIe, ea_pI_r, eq_self, s1, s2, hC.1.2.1, pn_is hC.1.1, e2, Bool.false_eq_true]
      rw [ab]
      simp (disch := omega) only [ev_ck, ev_ci, ev_cv, ev_lt_, ↓reduceIte, ev_lens, ev_ix, ev_nz, ev_cl, ev_cll, ev_add, ev_addl, ev_ladd, ev_mul, ev_mull, ev_lmul, ev_sub, ev_subl, ev_lsub, ev_lt, ev_ltl, ev_llt, ev_le, ev_lel, ev_lle, ev_eq, ev_eql, ev_leq, ev_nm1, ev_nm5, ev_m1n, ev_neg1, ev_ltT, ev_ltF, ev_leT, ev_leF, ev_eqT, ev_eqF, ev_one0, ev_zero1, Nat.reduceAdd, Nat.reduceMul, Nat.reduceSub, ea_pI_eq, ev_pIn, ev_pIe, ea_pI_r, eq_self]
  unfold fX10_isWithinSlack fX10_isWithinSlack_0
  rw [px_in, ev_ci, show (1999 : Int32) = nI 1999 from rfl, show (0 : Int32) = nI 0 from rfl]
  by_cases h20 : h < 2000
  · rw [pb_1 (by omega) (by omega) (by omega) (by omega), decide_eq_true h20, Bool.true_and, if_neg (by decide)]
    show fX10_isWithinSlack_16 (99996 + 1 + 1 + 1 + 1) (nI x) (nI i) (nI h) (nI 0) M = _
    rw [st _ 0 (by decide), st _ 1 (by decide), st _ 2 (by decide)]
    unfold ok1
    cases q0 : near (sp_col v o w x h 0) (lw l i 0 (2 + 0)) (n 2) with
    | false => rfl
    | true =>
      cases q1 : near (sp_col v o w x h 1) (lw l i 0 (2 + 1)) (n 2) with
      | false => rfl
      | true =>
        cases q2 : near (sp_col v o w x h 2) (lw l i 0 (2 + 2)) (n 2) with
        | false => rfl
        | true =>
          rw [if_pos rfl, if_pos rfl, if_pos rfl, fX10_isWithinSlack_16, if_pos (by decide)]
          rfl
  · obtain rfl : h = 2000 := by omega
    rw [show pb (nI 2000) (nI 0) (nI 1999) = 0 from by decide, if_pos (by decide)]
    rfl
/-- the model's test -/
theorem py_87 (hC : Ctx M cc n v th o w q l t r) (hi : i < q 0) (hx : x < th) {h : Nat} (hh : h < 2 ^ 31) {x5 x7 : Int32} (k145 : Int32 → Int32 → Int32 → Int32 → Int32 → Int32 → eM → Option (Int32 × eM)) : fX11_lightBack_87 k145 ea_N (nI x) x5 (nI (4 + 7 * i)) x7 (nI h) 1 0 M = k145 (nI x) x5 (nI (4 + 7 * i)) x7 (nI h) (if ok1 v o w (n 2) x h (lw l i 0) = true then 1 else 0) M := by
  have hok := hC.2.1.1
  have hq := hok.1
  have ho := hC.1.2.2.2.1
  have h2 := ho.2.2.1
  have hY := hC.1.2.2.2.2.2.1
  have hLY := hC.2.1.2.2.1
  have e2 := hY.1.2.2.1
  have st : ∀ (k c : Nat), c < 3 → fX11_lightBack_87 k145 (k + 1) (nI x) x5 (nI (4 + 7 * i)) x7 (nI h) 1 (nI c) M = fX11_lightBack_87 k145 k (nI x) x5 (nI (4 + 7 * i)) x7 (nI h) (if near (sp_col v o w x h c) (lw l i 0 (2 + c)) (n 2) = true then 1 else 0) (nI (c + 1)) M := by
    intro k c hc
    have s1 := py_colour hY ho hC.1.2.2.2.2.2.2.2.2 hC.1.2.2.2.2.2.2.1.1 hx hh hc
    have gk : M.1 114 (4 + 7 * i + 3 + c) = nI (l i (3 + c)) := by have := hLY.2.1 i (3 + c) hi (by omega); rw [Nat.zero_add, ← Nat.add_assoc] at this; exact this
    have b1 := (hok.2.2.2.2.1 i hi).2.2.2.1 c hc
    have b2 := sp_col_le (v := v) (o := o) (w := w) (x := x) (h := h) (c := c)
    have ab := py_plain (a := sp_col v o w x h c) (b := l i (3 + c)) (by omega) (by omega) M
    rw [lw_c, near_d]
    have hb : (if sp_col v o w x h c < l i (3 + c) then l i (3 + c) - sp_col v o w x h c else sp_col v o w x h c - l i (3 + c)) < 2147483648 := by
      by_cases h : sp_col v o w x h c < l i (3 + c)
      · rw [if_pos h]; omega
      · rw [if_neg h]; omega
    generalize (if sp_col v o w x h c < l i (3 + c) then l i (3 + c) - sp_col v o w x h c else sp_col v o w x h c - l i (3 + c)) = dd at ab hb
    rw [fX11_lightBack_87]
    by_cases hd : dd ≤ n 2
    · rw [decide_eq_true hd]
      simp (disch := omega) only [ev_ck, ev_ci, ev_cv, ev_lt_, ↓reduceIte, ev_lens, ev_ix, ev_nz, ev_cl, ev_cll, ev_add, ev_addl, ev_ladd, ev_mul, ev_mull, ev_lmul, ev_subl, ev_lsub, ev_lt, ev_ltl, ev_llt, ev_le, ev_lel, ev_lle, ev_eq, ev_eql, ev_leq, ev_nm1, ev_nm5, ev_m1n, ev_neg1, ev_ltT, ev_ltF, ev_leT, ev_leF, ev_eqT, ev_eqF, ev_one0, ev_zero1, Nat.reduceAdd, Nat.reduceMul, Nat.reduceSub, ea_pI_eq, ev_pIn, ev_pIe, ea_pI_r, eq_self, s1, gk, ab, e2, fX11_lightBack_137]
    · rw [decide_eq_false hd]
      simp (disch := omega) only [ev_ck, ev_ci, ev_cv, ev_lt_, ↓reduceIte, ev_lens, ev_ix, ev_nz, ev_cl, ev_cll, ev_add, ev_addl, ev_ladd, ev_mul, ev_mull, ev_lmul, ev_subl, ev_lsub, ev_lt, ev_ltl, ev_llt, ev_le, ev_lel, ev_lle, ev_eq, ev_eql, ev_leq, ev_nm1, ev_nm5, ev_m1n, ev_neg1, ev_ltT, ev_ltF, ev_leT, ev_leF, ev_eqT, ev_eqF, ev_one0, ev_zero1, Nat.reduceAdd, Nat.reduceMul, Nat.reduceSub, ea_pI_eq, ev_pIn, ev_pIe, ea_pI_r, eq_self, s1, gk, ab, e2, fX11_lightBack_137, Bool.false_eq_true]
  have ze : ∀ (k c : Nat), c ≤ 3 → fX11_lightBack_87 k145 (k + 1) (nI x) x5 (nI (4 + 7 * i)) x7 (nI h) 0 (nI c) M = k145 (nI x) x5 (nI (4 + 7 * i)) x7 (nI h) 0 M := by
    intro k c hc
    rw [fX11_lightBack_87]
    by_cases h3 : 3 ≤ c
    · simp (disch := omega) only [ev_ck, ev_ci, ev_cv, ev_lt_, ↓reduceIte, ev_lens, ev_ix, ev_nz, ev_cl, ev_cll, ev_add, ev_addl, ev_ladd, ev_mul, ev_mull, ev_lmul, ev_sub, ev_subl, ev_lsub, ev_lt, ev_ltl, ev_llt, ev_le, ev_lel, ev_lle, ev_eq, ev_eql, ev_leq, ev_nm1, ev_nm5, ev_m1n, ev_neg1, ev_ltT, ev_ltF, ev_leT, ev_leF, ev_eqT, ev_eqF, ev_one0, ev_zero1, Nat.reduceAdd, Nat.reduceMul, Nat.reduceSub, ea_pI_eq, ev_pIn, ev_pIe, ea_pI_r, eq_self]
    · simp (disch := omega) only [ev_ck, ev_ci, ev_cv, ev_lt_, ↓reduceIte, ev_lens, ev_ix, ev_nz, ev_cl, ev_cll, ev_add, ev_addl, ev_ladd, ev_mul, ev_mull, ev_lmul, ev_sub, ev_subl, ev_lsub, ev_lt, ev_ltl, ev_llt, ev_le, ev_lel, ev_lle, ev_eq, ev_eql, ev_leq, ev_nm1, ev_nm5, ev_m1n, ev_neg1, ev_ltT, ev_ltF, ev_leT, ev_leF, ev_eqT, ev_eqF, ev_one0, ev_zero1, Nat.reduceAdd, Nat.reduceMul, Nat.reduceSub, ea_pI_eq, ev_pIn, ev_pIe, ea_pI_r, eq_self]
  show fX11_lightBack_87 k145 (99996 + 1 + 1 + 1 + 1) (nI x) x5 (nI (4 + 7 * i)) x7 (nI h) 1 (nI 0) M = _
  rw [st _ 0 (by decide)]
  unfold ok1
  cases q0 : near (sp_col v o w x h 0) (lw l i 0 (2 + 0)) (n 2) with
  | false => rw [if_neg (by decide), ze _ 1 (by decide)]; rfl
  | true =>
    rw [if_pos rfl, st _ 1 (by decide)]
    cases q1 : near (sp_col v o w x h 1) (lw l i 0 (2 + 1)) (n 2) with
    | false => rw [if_neg (by decide), ze _ 2 (by decide)]; rfl
    | true =>
      rw [if_pos rfl, st _ 2 (by decide)]
      cases q2 : near (sp_col v o w x h 2) (lw l i 0 (2 + 2)) (n 2) with
      | false => rw [if_neg (by decide), ze _ 3 (by decide)]; rfl
      | true => rw [if_pos rfl, fX11_lightBack_87, if_pos (by decide)]; rfl
theorem py_73 (hC : Ctx M cc n v th o w q l t r) (hi : i < q 0) (hx : x < th) (x5 : Int32) : ∀ (d k h : Nat), 2000 - h = d → h ≤ 2000 → d < k → fX11_lightBack_73 k (nI x) x5 (nI (4 + 7 * i)) (enc id (if x5 = 0 then fsx (fun h => ok1 v o w (n 2) x h (lw l i 0)) h else lst (fun h => ok1 v o w (n 2) x h (lw l i 0)) h)) (nI h) M = some (enc id (if x5 = 0 then fsx (fun h => ok1 v o w (n 2) x h (lw l i 0)) 2000 else lst (fun h => ok1 v o w (n 2) x h (lw l i 0)) 2000), M) := by
  intro d
  induction d with
  | zero =>
    intro k h hd hh hk
    obtain ⟨k, rfl⟩ : ∃ f', k = f' + 1 := ⟨k - 1, by omega⟩
    obtain rfl : h = 2000 := by omega
    rw [fX11_lightBack_73, if_pos (by decide)]
  | succ d ih =>
    intro k h hd hh hk
    obtain ⟨k, rfl⟩ : ∃ f', k = f' + 1 := ⟨k - 1, by omega⟩
    have nx := ih k (h + 1) (by omega) (by omega) (by omega)
    rw [fX11_lightBack_73, if_neg (by rw [show (2000 : Int32) = nI 2000 from rfl, pn_leI (by omega) (by omega)]; omega), py_87 hC hi hx (by omega)]
    have el : lst (fun h => ok1 v o w (n 2) x h (lw l i 0)) (h + 1) = if ok1 v o w (n 2) x h (lw l i 0) = true then some h else lst (fun h => ok1 v o w (n 2) x h (lw l i 0)) h := rfl
    have ef := fsx_s (fun h => ok1 v o w (n 2) x h (lw l i 0)) h
    unfold fX11_lightBack_145 fX11_lightBack_161 fX11_lightBack_165
    rw [show nI h + 1 = nI (h + 1) from nI_add h 1]
    cases hb : ok1 v o w (n 2) x h (lw l i 0) with
    | false =>
      rw [hb, if_neg Bool.false_ne_true] at el
      have ef : fsx (fun h => ok1 v o w (n 2) x h (lw l i 0)) (h + 1) = fsx (fun h => ok1 v o w (n 2) x h (lw l i 0)) h := by
        rw [ef]
        cases fsx (fun h => ok1 v o w (n 2) x h (lw l i 0)) h with
        | none => show (if ok1 v o w (n 2) x h (lw l i 0) = true then some h else none) = none; rw [hb]; rfl
        | some j => rfl
      rw [if_pos (by decide)]
      rw [el, ef] at nx
      exact nx
    | true =>
      rw [hb, if_pos rfl] at el
      rw [if_neg (by decide)]
      by_cases h5 : x5 = 0
      · rw [if_pos h5, if_pos h5, if_pos h5]
        rw [if_pos h5, if_pos h5] at nx
        cases hf : fsx (fun h => ok1 v o w (n 2) x h (lw l i 0)) h with
        | none =>
          rw [ef, hf] at nx
          have nx : fX11_lightBack_73 k (nI x) x5 (nI (4 + 7 * i)) (enc id (if ok1 v o w (n 2) x h (lw l i 0) = true then some h else none)) (nI (h + 1)) M = _ := nx
          rw [hb, if_pos rfl] at nx
          show (if (-1 : Int32) = -1 then _ else _) = _
          rw [if_pos rfl]
          exact nx
        | some j =>
          have hj : j < 2000 := by
            have : ∀ k j, fsx (fun h => ok1 v o w (n 2) x h (lw l i 0)) k = some j → j < k := by
              intro k
              induction k with
              | zero => intro j h; cases h
              | succ k ih2 =>
                intro j hjk
                rw [fsx_s] at hjk
                cases hq : fsx (fun h => ok1 v o w (n 2) x h (lw l i 0)) k with
                | none =>
                  rw [hq] at hjk
                  have hjk : (if ok1 v o w (n 2) x k (lw l i 0) = true then some k else none) = some j := hjk
                  by_cases hc : ok1 v o w (n 2) x k (lw l i 0) = true
                  · rw [if_pos hc] at hjk; cases hjk; omega
                  · rw [if_neg hc] at hjk; cases hjk
                | some j2 =>
                  rw [hq] at hjk
                  have hjk : j2 = j := Option.some.inj hjk
                  have := ih2 j2 hq
                  omega
            have := this h j hf
            omega
          rw [ef, hf] at nx
          show (if nI j = -1 then _ else _) = _
          rw [if_neg (ev_neg (by omega) (by decide))]
          exact nx
      · rw [if_neg h5, if_neg h5]
        rw [if_neg h5, if_neg h5, el] at nx
        exact nx
end LB
