/-- THREADS in their order -/
def t1 : Nat → List (Nat × Nat)
  | 0 => []
  | k + 1 => t1 k ++ [(k, 45)]
def trw (x b : Nat) : Nat → List (Nat × Nat)
  | 0 => []
  | d + 1 => trw x b d ++ [(x, b + d)]
def t2 (N : Nat) : Nat → List (Nat × Nat)
  | 0 => t1 N
  | x + 1 => t2 N x ++ trw x ((x / 9 + 1) * 9) (N - (x / 9 + 1) * 9)
def tls (st mo : Nat) : List (Nat × Nat) := if mo = 2 then t2 (9 * st) (9 * st) else t1 (9 * st)
def lo1 (L : List (Nat × Nat)) (t : Nat) : Nat := (L.getD t (0, 0)).1
def lo2 (L : List (Nat × Nat)) (t : Nat) : Nat := (L.getD t (0, 0)).2
theorem gd_lt {L : List (Nat × Nat)} {x : Nat × Nat} {t : Nat} (h : t < L.length) : (L ++ [x]).getD t (0, 0) = L.getD t (0, 0) := by
  rw [List.getD_eq_getElem?_getD, List.getD_eq_getElem?_getD, List.getElem?_append_left h]
theorem gd_eq {L : List (Nat × Nat)} {x : Nat × Nat} : (L ++ [x]).getD L.length (0, 0) = x := by
  rw [List.getD_eq_getElem?_getD, List.getElem?_concat_length]
  rfl
theorem gd_mem {L : List (Nat × Nat)} {x : Nat × Nat} (h : x ∈ L) : ∃ t, t < L.length ∧ L.getD t (0, 0) = x := by
  obtain ⟨i, hi, e⟩ := List.getElem_of_mem h
  refine ⟨i, hi, ?_⟩
  rw [List.getD_eq_getElem?_getD, List.getElem?_eq_getElem hi]
  exact e
theorem gd_in {L : List (Nat × Nat)} {t : Nat} (h : t < L.length) : L.getD t (0, 0) ∈ L := by
  rw [List.getD_eq_getElem?_getD, List.getElem?_eq_getElem h]
  exact List.getElem_mem h
theorem len1 {L : List (Nat × Nat)} {x : Nat × Nat} : (L ++ [x]).length = L.length + 1 := by
  rw [List.length_append]
  rfl
theorem t1_l : ∀ k, (t1 k).length = k
  | 0 => rfl
  | k + 1 => by
    show (t1 k ++ [(k, 45)]).length = k + 1
    rw [len1, t1_l k]
theorem trw_l (x b : Nat) : ∀ d, (trw x b d).length = d
  | 0 => rfl
  | d + 1 => by
    show (trw x b d ++ [(x, b + d)]).length = d + 1
    rw [len1, trw_l x b d]
def tql (N : Nat) : Nat → Nat
  | 0 => N
  | x + 1 => tql N x + (N - (x / 9 + 1) * 9)
theorem t2_l (N : Nat) : ∀ x, (t2 N x).length = tql N x
  | 0 => t1_l N
  | x + 1 => by
    show (t2 N x ++ trw x ((x / 9 + 1) * 9) (N - (x / 9 + 1) * 9)).length = tql N x + (N - (x / 9 + 1) * 9)
    rw [List.length_append, t2_l N x, trw_l]
theorem tql_b : ∀ s, s < 6 → ∀ x, x < 46 → tql (9 * s) x ≤ 855 := by decide +kernel
theorem t1_m : ∀ k y, y ∈ t1 k → y.1 < k ∧ y.2 = 45
  | 0, y, h => by cases h
  | k + 1, y, h => by
    rcases List.mem_append.mp h with h | h
    · have := t1_m k y h
      exact ⟨by omega, this.2⟩
    · have e := List.mem_singleton.mp h
      rw [e]
      exact ⟨Nat.lt_succ_self k, rfl⟩
theorem t1_h : ∀ k x, x < k → (x, 45) ∈ t1 k
  | 0, x, h => by omega
  | k + 1, x, h => by
    apply List.mem_append.mpr
    by_cases e : x = k
    · rw [e]
      exact Or.inr (List.mem_singleton.mpr rfl)
    · exact Or.inl (t1_h k x (by omega))
theorem trw_m (x b : Nat) : ∀ d y, y ∈ trw x b d → y.1 = x ∧ b ≤ y.2 ∧ y.2 < b + d
  | 0, y, h => by cases h
  | d + 1, y, h => by
    rcases List.mem_append.mp h with h | h
    · have := trw_m x b d y h
      exact ⟨this.1, this.2.1, by omega⟩
    · have e := List.mem_singleton.mp h
      rw [e]
      exact ⟨rfl, Nat.le_add_right _ _, Nat.lt_succ_self _⟩
theorem trw_h (x b : Nat) : ∀ d e, e < d → (x, b + e) ∈ trw x b d
  | 0, e, h => by omega
  | d + 1, e, h => by
    apply List.mem_append.mpr
    by_cases q : e = d
    · rw [q]
      exact Or.inr (List.mem_singleton.mpr rfl)
    · exact Or.inl (trw_h x b d e (by omega))
theorem t2_m (N : Nat) : ∀ x y, y ∈ t2 N x → (y.1 < N ∧ y.2 = 45) ∨ (y.1 < x ∧ y.2 < N ∧ y.1 / 9 < y.2 / 9)
  | 0, y, h => Or.inl (t1_m N y h)
  | x + 1, y, h => by
    rcases List.mem_append.mp h with h | h
    · have := t2_m N x y h
      omega
    · have := trw_m x ((x / 9 + 1) * 9) (N - (x / 9 + 1) * 9) y h
      right
      have e := this.1
      rw [e]
      omega
theorem t2_h1 (N : Nat) : ∀ x y, y ∈ t1 N → y ∈ t2 N x
  | 0, y, h => h
  | x + 1, y, h => List.mem_append.mpr (Or.inl (t2_h1 N x y h))
theorem t2_h2 (N : Nat) : ∀ k x y, x < k → y < N → x / 9 < y / 9 → (x, y) ∈ t2 N k
  | 0, x, y, h, _, _ => by omega
  | k + 1, x, y, h, h2, h3 => by
    apply List.mem_append.mpr
    by_cases e : x = k
    · subst e
      have := trw_h x ((x / 9 + 1) * 9) (N - (x / 9 + 1) * 9) (y - (x / 9 + 1) * 9) (by omega)
      rw [show (x / 9 + 1) * 9 + (y - (x / 9 + 1) * 9) = y by omega] at this
      exact Or.inr this
    · exact Or.inl (t2_h2 N k x y (by omega) h2 h3)
theorem tls_th {n : Nat → Nat} (h4 : n 4 ≤ 5) : pn_Th n (tls (n 4) (n 3)).length (lo1 (tls (n 4) (n 3))) (lo2 (tls (n 4) (n 3))) := by
  have hm : ∀ y, y ∈ tls (n 4) (n 3) → (y.1 < 9 * n 4 ∧ y.2 = 45) ∨ (y.1 < 9 * n 4 ∧ y.2 < 9 * n 4 ∧ y.1 / 9 < y.2 / 9) := by
    intro y hy
    unfold tls at hy
    by_cases e : n 3 = 2
    · rw [if_pos e] at hy
      exact t2_m _ _ y hy
    · rw [if_neg e] at hy
      exact Or.inl (t1_m _ y hy)
  have h1 : ∀ x, x < 9 * n 4 → (x, 45) ∈ tls (n 4) (n 3) := by
    intro x hx
    unfold tls
    by_cases e : n 3 = 2
    · rw [if_pos e]
      exact t2_h1 _ _ _ (t1_h _ x hx)
    · rw [if_neg e]
      exact t1_h _ x hx
  have hl : (tls (n 4) (n 3)).length ≤ 855 ∧ 9 * n 4 ≤ (tls (n 4) (n 3)).length ∧ (n 4 = 0 → (tls (n 4) (n 3)).length = 0) := by
    unfold tls
    have mono : ∀ N x, N ≤ tql N x := by
      intro N x
      induction x with
      | zero => exact Nat.le_refl _
      | succ x ih => exact Nat.le_trans ih (Nat.le_add_right _ _)
    by_cases e : n 3 = 2
    · rw [if_pos e, t2_l]
      refine ⟨tql_b (n 4) (by omega) (9 * n 4) (by omega), mono _ _, fun z => ?_⟩
      rw [z]
      rfl
    · rw [if_neg e, t1_l]
      omega
  refine ⟨⟨hl.1, fun t ht => ?_⟩, hl.2.2, fun h => by omega, fun t ht h => ?_, fun x hx => ?_, fun h3 x y hy hxy => ?_⟩
  · have := hm _ (gd_in ht)
    unfold lo1 lo2
    omega
  · have := hm _ (gd_in ht)
    unfold lo1 lo2 at *
    omega
  · obtain ⟨t, a1, a2⟩ := gd_mem (h1 x hx)
    refine ⟨t, a1, ?_, ?_⟩
    · unfold lo1; rw [a2]
    · unfold lo2; rw [a2]
  · have hin : (x, y) ∈ tls (n 4) (n 3) := by
      unfold tls
      rw [if_pos h3]
      exact t2_h2 _ _ x y (by omega) hy hxy
    obtain ⟨t, a1, a2⟩ := gd_mem hin
    refine ⟨t, a1, ?_, ?_⟩
    · unfold lo1; rw [a2]
    · unfold lo2; rw [a2]
/-- the class's THREADS -/
def tx (M : eM) (L : List (Nat × Nat)) : Prop := pn_TX M L.length (lo1 L) (lo2 L)
def FrK (M M' : eM) : Prop := (∀ c k, c ≠ 5 → c ≠ 6 → (c ≠ 4 ∨ k ≠ 1) → M'.1 c k = M.1 c k) ∧ M'.2 = M.2
theorem FrK.rf (M : eM) : FrK M M := ⟨fun _ _ _ _ _ => rfl, rfl⟩
theorem FrK.trans {A B D : eM} (h : FrK A B) (g : FrK B D) : FrK A D := ⟨fun c k p q r => (g.1 c k p q r).trans (h.1 c k p q r), g.2.trans h.2⟩
theorem px_addt {M : eM} {L : List (Nat × Nat)} (a b : Nat) (h : tx M L) (hl : L.length < 855) : ∃ M', fX9_add (nI a) (nI b) M = some M' ∧ tx M' (L ++ [(a, b)]) ∧ FrK M M' := by
  obtain ⟨h1, h2⟩ := h
  refine ⟨ea_pI (ea_pI (ea_pI M 5 L.length (nI a)) 6 L.length (nI b)) 4 1 (nI (L.length + 1)), ?_, ⟨?_, ?_⟩, ⟨fun c k p q r => ?_, rfl⟩⟩
  · simp (disch := omega) only [ev_ck, ev_ci, ev_cv, ev_lt_, ↓reduceIte, ev_lens, ev_ix, ev_nz, ev_cl, ev_cll, ev_add, ev_addl, ev_ladd, ev_mul, ev_mull, ev_lmul, ev_sub, ev_subl, ev_lsub, ev_lt, ev_ltl, ev_llt, ev_le, ev_lel, ev_lle, ev_eq, ev_eql, ev_leq, ev_nm1, ev_nm5, ev_m1n, ev_neg1, ev_ltT, ev_ltF, ev_leT, ev_leF, ev_eqT, ev_eqF, ev_one0, ev_zero1, Nat.reduceAdd, Nat.reduceMul, Nat.reduceSub, ea_pI_eq, ev_pIn, ev_pIe, ea_pI_r, eq_self, fX9_add, fX9_add_0, h1]
  · rw [len1]
    exact ea_pI_eq
  · intro t ht
    rw [len1] at ht
    unfold lo1 lo2
    by_cases e : t = L.length
    · subst e
      rw [gd_eq]
      exact ⟨by simp (disch := omega) only [ev_ck, ev_ci, ev_cv, ev_lt_, ↓reduceIte, ev_lens, ev_ix, ev_nz, ev_cl, ev_cll, ev_add, ev_addl, ev_ladd, ev_mul, ev_mull, ev_lmul, ev_sub, ev_subl, ev_lsub, ev_lt, ev_ltl, ev_llt, ev_le, ev_lel, ev_lle, ev_eq, ev_eql, ev_leq, ev_nm1, ev_nm5, ev_m1n, ev_neg1, ev_ltT, ev_ltF, ev_leT, ev_leF, ev_eqT, ev_eqF, ev_one0, ev_zero1, Nat.reduceAdd, Nat.reduceMul, Nat.reduceSub, ea_pI_eq, ev_pIn, ev_pIe, ea_pI_r, eq_self], by simp (disch := omega) only [ev_ck, ev_ci, ev_cv, ev_lt_, ↓reduceIte, ev_lens, ev_ix, ev_nz, ev_cl, ev_cll, ev_add, ev_addl, ev_ladd, ev_mul, ev_mull, ev_lmul, ev_sub, ev_subl, ev_lsub, ev_lt, ev_ltl, ev_llt, ev_le, ev_lel, ev_lle, ev_eq, ev_eql, ev_leq, ev_nm1, ev_nm5, ev_m1n, ev_neg1, ev_ltT, ev_ltF, ev_leT, ev_leF, ev_eqT, ev_eqF, ev_one0, ev_zero1, Nat.reduceAdd, Nat.reduceMul, Nat.reduceSub, ea_pI_eq, ev_pIn, ev_pIe, ea_pI_r, eq_self]⟩
    · rw [gd_lt (by omega)]
      obtain ⟨w1, w2⟩ := h2 t (by omega)
      exact ⟨by rw [ea_pI_ne (by omega), ea_pI_ne (by omega), ea_pI_ne (by omega)]; exact w1, by rw [ea_pI_ne (by omega), ea_pI_ne (by omega), ea_pI_ne (by omega)]; exact w2⟩
  · rw [ea_pI_ne (by omega), ea_pI_ne (by omega), ea_pI_ne (by omega)]
/-- the model's THREADS -/
def ty (M : eM) (L : List (Nat × Nat)) : Prop := pn_TY M L.length (lo1 L) (lo2 L)
def FrQ (M M' : eM) : Prop := (∀ c k, (c < 110 ∨ 113 < c) → (c ≠ 100 ∨ k ≠ 22) → M'.1 c k = M.1 c k) ∧ M'.2 = M.2
theorem FrQ.rf (M : eM) : FrQ M M := ⟨fun _ _ _ _ => rfl, rfl⟩
theorem FrQ.trans {A B D : eM} (h : FrQ A B) (g : FrQ B D) : FrQ A D := ⟨fun c k p q => (g.1 c k p q).trans (h.1 c k p q), g.2.trans h.2⟩
theorem py_addt {M : eM} {L : List (Nat × Nat)} {x1 x2 x3 x4 : Int32} (a b : Nat) (e1 : x1 = nI (a / 9)) (e2 : x2 = nI (a % 9 + 1)) (e3 : b = 45 → x3 = -1) (e4 : b ≠ 45 → x3 = nI (b / 9) ∧ x4 = nI (b % 9 + 1)) (h : ty M L) (hl : L.length < 855) : ∃ M', fX11_addThread x1 x2 x3 x4 M = some M' ∧ ty M' (L ++ [(a, b)]) ∧ FrQ M M' := by
  obtain ⟨h1, h2⟩ := h
  refine ⟨ea_pI (ea_pI (ea_pI (ea_pI (ea_pI M 110 L.length x1) 111 L.length x2) 112 L.length x3) 113 L.length x4) 100 22 (nI (L.length + 1)), ?_, ⟨?_, ?_⟩, ⟨fun c k p q => ?_, rfl⟩⟩
  · simp (disch := omega) only [ev_ck, ev_ci, ev_cv, ev_lt_, ↓reduceIte, ev_lens, ev_ix, ev_nz, ev_cl, ev_cll, ev_add, ev_addl, ev_ladd, ev_mul, ev_mull, ev_lmul, ev_sub, ev_subl, ev_lsub, ev_lt, ev_ltl, ev_llt, ev_le, ev_lel, ev_lle, ev_eq, ev_eql, ev_leq, ev_nm1, ev_nm5, ev_m1n, ev_neg1, ev_ltT, ev_ltF, ev_leT, ev_leF, ev_eqT, ev_eqF, ev_one0, ev_zero1, Nat.reduceAdd, Nat.reduceMul, Nat.reduceSub, ea_pI_eq, ev_pIn, ev_pIe, ea_pI_r, eq_self, fX11_addThread, fX11_addThread_0, h1]
  · rw [len1]
    exact ea_pI_eq
  · intro t ht
    rw [len1] at ht
    have k0 : ∀ c, 110 ≤ c → c ≤ 113 → t ≠ L.length → (ea_pI (ea_pI (ea_pI (ea_pI (ea_pI M 110 L.length x1) 111 L.length x2) 112 L.length x3) 113 L.length x4) 100 22 (nI (L.length + 1))).1 c t = M.1 c t := fun c p q r => by rw [ea_pI_ne (by omega), ea_pI_ne (by omega), ea_pI_ne (by omega), ea_pI_ne (by omega), ea_pI_ne (by omega)]
    unfold lo1 lo2
    by_cases e : t = L.length
    · subst e
      rw [gd_eq]
      refine ⟨?_, ?_, fun hb => ?_, fun hb => ⟨?_, ?_⟩⟩
      · simp (disch := omega) only [ev_ck, ev_ci, ev_cv, ev_lt_, ↓reduceIte, ev_lens, ev_ix, ev_nz, ev_cl, ev_cll, ev_add, ev_addl, ev_ladd, ev_mul, ev_mull, ev_lmul, ev_sub, ev_subl, ev_lsub, ev_lt, ev_ltl, ev_llt, ev_le, ev_lel, ev_lle, ev_eq, ev_eql, ev_leq, ev_nm1, ev_nm5, ev_m1n, ev_neg1, ev_ltT, ev_ltF, ev_leT, ev_leF, ev_eqT, ev_eqF, ev_one0, ev_zero1, Nat.reduceAdd, Nat.reduceMul, Nat.reduceSub, ea_pI_eq, ev_pIn, ev_pIe, ea_pI_r, eq_self]
        exact e1
      · simp (disch := omega) only [ev_ck, ev_ci, ev_cv, ev_lt_, ↓reduceIte, ev_lens, ev_ix, ev_nz, ev_cl, ev_cll, ev_add, ev_addl, ev_ladd, ev_mul, ev_mull, ev_lmul, ev_sub, ev_subl, ev_lsub, ev_lt, ev_ltl, ev_llt, ev_le, ev_lel, ev_lle, ev_eq, ev_eql, ev_leq, ev_nm1, ev_nm5, ev_m1n, ev_neg1, ev_ltT, ev_ltF, ev_leT, ev_leF, ev_eqT, ev_eqF, ev_one0, ev_zero1, Nat.reduceAdd, Nat.reduceMul, Nat.reduceSub, ea_pI_eq, ev_pIn, ev_pIe, ea_pI_r, eq_self]
        exact e2
      · simp (disch := omega) only [ev_ck, ev_ci, ev_cv, ev_lt_, ↓reduceIte, ev_lens, ev_ix, ev_nz, ev_cl, ev_cll, ev_add, ev_addl, ev_ladd, ev_mul, ev_mull, ev_lmul, ev_sub, ev_subl, ev_lsub, ev_lt, ev_ltl, ev_llt, ev_le, ev_lel, ev_lle, ev_eq, ev_eql, ev_leq, ev_nm1, ev_nm5, ev_m1n, ev_neg1, ev_ltT, ev_ltF, ev_leT, ev_leF, ev_eqT, ev_eqF, ev_one0, ev_zero1, Nat.reduceAdd, Nat.reduceMul, Nat.reduceSub, ea_pI_eq, ev_pIn, ev_pIe, ea_pI_r, eq_self]
        exact e3 hb
      · simp (disch := omega) only [ev_ck, ev_ci, ev_cv, ev_lt_, ↓reduceIte, ev_lens, ev_ix, ev_nz, ev_cl, ev_cll, ev_add, ev_addl, ev_ladd, ev_mul, ev_mull, ev_lmul, ev_sub, ev_subl, ev_lsub, ev_lt, ev_ltl, ev_llt, ev_le, ev_lel, ev_lle, ev_eq, ev_eql, ev_leq, ev_nm1, ev_nm5, ev_m1n, ev_neg1, ev_ltT, ev_ltF, ev_leT, ev_leF, ev_eqT, ev_eqF, ev_one0, ev_zero1, Nat.reduceAdd, Nat.reduceMul, Nat.reduceSub, ea_pI_eq, ev_pIn, ev_pIe, ea_pI_r, eq_self]
        exact (e4 hb).1
      · simp (disch := omega) only [ev_ck, ev_ci, ev_cv, ev_lt_, ↓reduceIte, ev_lens, ev_ix, ev_nz, ev_cl, ev_cll, ev_add, ev_addl, ev_ladd, ev_mul, ev_mull, ev_lmul, ev_sub, ev_subl, ev_lsub, ev_lt, ev_ltl, ev_llt, ev_le, ev_lel, ev_lle, ev_eq, ev_eql, ev_leq, ev_nm1, ev_nm5, ev_m1n, ev_neg1, ev_ltT, ev_ltF, ev_leT, ev_leF, ev_eqT, ev_eqF, ev_one0, ev_zero1, Nat.reduceAdd, Nat.reduceMul, Nat.reduceSub, ea_pI_eq, ev_pIn, ev_pIe, ea_pI_r, eq_self]
        exact (e4 hb).2
    · rw [gd_lt (by omega), k0 110 (by omega) (by omega) e, k0 111 (by omega) (by omega) e, k0 112 (by omega) (by omega) e, k0 113 (by omega) (by omega) e]
      exact h2 t (by omega)
  · rw [ea_pI_ne (by omega), ea_pI_ne (by omega), ea_pI_ne (by omega), ea_pI_ne (by omega), ea_pI_ne (by omega)]
