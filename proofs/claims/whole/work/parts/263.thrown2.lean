/-- the guards of a thrown light -/
def tk3 (x1 x2 x3 : Int32) (n : Nat → Nat) : Int32 := if pb x1 0 (nI (n 6) - 1) = 0 then 0 else if pb x2 0 (nI (n 5) - 1) = 0 then 0 else if pb x3 0 (nI 100 - 1) = 0 then 0 else 1
section TK
variable {M : eM} {c : Nat} {n : Nat → Nat} {v : Nat → Nat → Nat} {th : Nat} {o w : Nat → Nat}
theorem tk3_cs (ho : pn_ok n v) (x1 x2 x3 : Int32) : (tk3 x1 x2 x3 n = 0 ∧ (pb x1 0 (nI (n 6) - 1) = 0 ∨ (pb x1 0 (nI (n 6) - 1) = 1 ∧ (pb x2 0 (nI (n 5) - 1) = 0 ∨ (pb x2 0 (nI (n 5) - 1) = 1 ∧ pb x3 0 (nI 100 - 1) = 0))))) ∨ (tk3 x1 x2 x3 n = 1 ∧ (pb x1 0 (nI (n 6) - 1) = 1 ∧ pb x2 0 (nI (n 5) - 1) = 1 ∧ pb x3 0 (nI 100 - 1) = 1) ∧ ∃ e s bd, e < n 6 ∧ s < n 5 ∧ bd ≤ 99 ∧ x1 = nI e ∧ x2 = nI s ∧ x3 = nI bd) := by
  have h5 := ho.2.2.2.2.2.1
  have h6 := ho.2.2.2.2.2.2.1
  unfold tk3
  rcases pb_01 x1 0 (nI (n 6) - 1) with hb | hb
  · rw [hb, if_pos rfl]; exact Or.inl ⟨rfl, Or.inl rfl⟩
  rcases pb_01 x2 0 (nI (n 5) - 1) with hb2 | hb2
  · rw [hb, hb2, if_neg (by decide), if_pos rfl]; exact Or.inl ⟨rfl, Or.inr ⟨rfl, Or.inl rfl⟩⟩
  rcases pb_01 x3 0 (nI 100 - 1) with hb3 | hb3
  · rw [hb, hb2, hb3, if_neg (by decide), if_neg (by decide), if_pos rfl]; exact Or.inl ⟨rfl, Or.inr ⟨rfl, Or.inr ⟨rfl, rfl⟩⟩⟩
  obtain ⟨e, h1, he⟩ := pb_nat0 (by omega) hb
  obtain ⟨s, h2, hs⟩ := pb_nat0 (by omega) hb2
  obtain ⟨bd, h3, hd⟩ := pb_nat0 (by decide) hb3
  rw [hb, hb2, hb3, if_neg (by decide), if_neg (by decide), if_neg (by decide)]
  exact Or.inr ⟨rfl, ⟨rfl, rfl, rfl⟩, e, s, bd, h1, h2, by omega, he, hs, hd⟩
theorem gx_throw (h : pn_C M c n v th o w) (x1 x2 x3 : Int32) : fX10_mayThrow x1 x2 x3 M = some (tk3 x1 x2 x3 n, M) := by
  have e15 := h.2.2.2.2.1.1.2.2.2.2.2.2.1
  have px3 : fX10_isWithin x3 0 99 M = some (pb x3 0 (nI 100 - 1), M) := px_in x3 0 99 M
  unfold fX10_mayThrow fX10_mayThrow_0 tk3
  rw [h.2.1, ea_ck_t (pn_is h.1), e15, px_in, ev_ci]
  by_cases h1 : pb x1 0 (nI (n 6) - 1) = 0
  · rw [if_pos h1, if_pos h1]
  · rw [if_neg h1, if_neg h1, gx_story h, ev_ci]
    by_cases h2 : pb x2 0 (nI (n 5) - 1) = 0
    · rw [if_pos h2, if_pos h2]
    · rw [if_neg h2, if_neg h2, px3, ev_ci]
      by_cases h3 : pb x3 0 (nI 100 - 1) = 0
      · rw [if_pos h3, if_pos h3]
      · rw [if_neg h3, if_neg h3]
theorem gy_eye (h : pn_C M c n v th o w) (x1 : Int32) : fX11_isEye x1 M = some (pb x1 0 (nI (n 6) - 1), M) := by
  have e6 := h.2.2.2.2.2.1.1.2.2.2.2.2.2.1
  unfold fX11_isEye fX11_isEye_0
  rw [show (6 : Int32).toNatClampNeg = 6 from rfl, e6, ea_ci_t (py_in ..), ea_ck_t (pb_ok ..)]
end TK
theorem fda_some {E : Nat → Nat → Nat} {F G : Nat → Nat} (B C : Nat) : ∀ a, ∃ m a' b' c', fda E F G B C (a + 1) = some (m, a', b', c') := by
  have u : ∀ a b c st, ∃ m a' b' c', upg E F G a b c st = some (m, a', b', c') := by
    intro a b c st
    match st with
    | none => exact ⟨_, _, _, _, rfl⟩
    | some (m, a', b', c') =>
      show ∃ m1 a1 b1 c1, (if mis E F G a b c < m ∨ (mis E F G a b c = m ∧ a + b + c < a' + b' + c') then some (mis E F G a b c, a, b, c) else some (m, a', b', c')) = some (m1, a1, b1, c1)
      by_cases q : mis E F G a b c < m ∨ (mis E F G a b c = m ∧ a + b + c < a' + b' + c')
      · rw [if_pos q]; exact ⟨_, _, _, _, rfl⟩
      · rw [if_neg q]; exact ⟨_, _, _, _, rfl⟩
  intro a
  exact u _ _ _ _
section TY
variable {M : eM} {cc th : Nat} {n : Nat → Nat} {v : Nat → Nat → Nat} {o w q : Nat → Nat} {l t r : Nat → Nat → Nat} {cell : Nat}
/-- the front as it was looked at last -/
def fro (l : Nat → Nat → Nat) (q : Nat → Nat) (cell : Nat) : Option Nat := match lst (lkp l cell 0 999) (q 0) with
  | none => none
  | some i => if l i 6 = 1 then none else some i
theorem fro_in {i : Nat} (h : fro l q cell = some i) : i < q 0 ∧ l i 6 ≠ 1 := by
  unfold fro at h
  cases hz : lst (lkp l cell 0 999) (q 0) with
  | none => rw [hz] at h; cases h
  | some j =>
    rw [hz] at h
    have h : (if l j 6 = 1 then none else some j) = some i := h
    by_cases hg : l j 6 = 1
    · rw [if_pos hg] at h; cases h
    · rw [if_neg hg] at h
      have e : j = i := Option.some.inj h
      rw [← e]
      exact ⟨(lst_lt hz).1, hg⟩
theorem px_fro (hC : Ctx M cc n v th o w q l t r) (hcell : cell < 48) (k : Int32 → Int32 → eM → Option (Int32 × eM)) (hk : ∀ x, k x 0 M = k 0 0 M) : ea_ci (fX8_latestLook 30 (nI cell) 0 999 M) (fun r14 M15 => ea_ci (fX8_isSeen 30 r14 M15) (fun r17 M18 => k r14 r17 M18)) = match fro l q cell with
    | none => k 0 0 M
    | some i => k (nI i) 1 M := by
  have hok := hC.2.1.1
  have hLX := hC.2.1.2.1
  have hX := px_look (Or.inl rfl) hok hLX (cell := cell) (side := 0) (known := 999) (by omega) (by omega) (by omega)
  have hX : fX8_latestLook 30 (nI cell) 0 999 M = _ := hX
  have hSn := px_seen (Or.inl rfl) hok hLX (z := lst (lkp l cell 0 999) (q 0)) (fun i hi => (lst_lt hi).1)
  rw [hX, ev_ci, hSn, ev_ci]
  unfold fro
  cases hz : lst (lkp l cell 0 999) (q 0) with
  | none => exact hk _
  | some j =>
    show k (nI j) (if decide (l j 6 ≠ 1) = true then 1 else 0) M = match (if l j 6 = 1 then none else some j) with
      | none => k 0 0 M
      | some i => k (nI i) 1 M
    by_cases hg : l j 6 = 1
    · rw [if_pos hg, if_neg (by simp [hg])]
      exact hk _
    · rw [if_neg hg, if_pos (by simp [hg])]
theorem py_fro (hC : Ctx M cc n v th o w q l t r) (hcell : cell < 48) : fX11_frontOf (nI cell) M = some (match fro l q cell with
    | none => -1
    | some i => nI (4 + 7 * i + 3), M) := by
  have hok := hC.2.1.1
  have hq := hok.1
  have hLY := hC.2.1.2.2.1
  have hY := py_look hok hLY (cell := cell) (side := 0) (known := 999) (by omega) (by omega) (by omega)
  have hY : fX11_lookAt (nI cell) 0 999 M = _ := hY
  unfold fX11_frontOf fX11_frontOf_0
  rw [hY, ev_ci]
  unfold fro
  cases hz : lst (lkp l cell 0 999) (q 0) with
  | none =>
    show (if (-1 : Int32) < 0 then _ else _) = _
    rw [if_pos (by decide)]
    rfl
  | some j =>
    have hj := (lst_lt hz).1
    have b6 := (hok.2.2.2.2.1 j hj).2.2.2.2.1
    have g6 : M.1 114 (4 + 7 * j + 6) = nI (l j 6) := by have := hLY.2.1 j 6 hj (by decide); rw [Nat.zero_add] at this; exact this
    show (if nI (4 + 7 * j) < 0 then _ else ea_ck (ea_ix (nI (4 + 7 * j) + 6) (ea_len 114)) (if M.1 114 (nI (4 + 7 * j) + 6).toNatClampNeg = 1 then _ else some (nI (4 + 7 * j) + 3, M))) = some (match (if l j 6 = 1 then none else some j) with
      | none => -1
      | some i => nI (4 + 7 * i + 3), M)
    by_cases hg : l j 6 = 1
    · rw [if_pos hg]
      simp (disch := omega) only [ev_ck, ev_ci, ev_cv, ev_lt_, ↓reduceIte, ev_lens, ev_ix, ev_nz, ev_cl, ev_cll, ev_add, ev_addl, ev_ladd, ev_mul, ev_mull, ev_lmul, ev_sub, ev_subl, ev_lsub, ev_lt, ev_ltl, ev_llt, ev_le, ev_lel, ev_lle, ev_eq, ev_eql, ev_leq, ev_nm1, ev_nm5, ev_m1n, ev_neg1, ev_ltT, ev_ltF, ev_leT, ev_leF, ev_eqT, ev_eqF, ev_one0, ev_zero1, Nat.reduceAdd, Nat.reduceMul, Nat.reduceSub, ea_pI_eq, ev_pIn, ev_pIe, ea_pI_r, eq_self, g6, fX11_frontOf_27]
    · rw [if_neg hg]
      simp (disch := omega) only [ev_ck, ev_ci, ev_cv, ev_lt_, ↓reduceIte, ev_lens, ev_ix, ev_nz, ev_cl, ev_cll, ev_add, ev_addl, ev_ladd, ev_mul, ev_mull, ev_lmul, ev_sub, ev_subl, ev_lsub, ev_lt, ev_ltl, ev_llt, ev_le, ev_lel, ev_lle, ev_eq, ev_eql, ev_leq, ev_nm1, ev_nm5, ev_m1n, ev_neg1, ev_ltT, ev_ltF, ev_leT, ev_leF, ev_eqT, ev_eqF, ev_one0, ev_zero1, Nat.reduceAdd, Nat.reduceMul, Nat.reduceSub, ea_pI_eq, ev_pIn, ev_pIe, ea_pI_r, eq_self, g6]
end TY
