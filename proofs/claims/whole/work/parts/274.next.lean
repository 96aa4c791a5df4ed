def mk8 (a b c d e f g h : Bool) : Nat := (if a = true then 1 else 0) + (if b = true then 2 else 0) + (if c = true then 4 else 0) + (if d = true then 8 else 0) + (if e = true then 16 else 0) + (if f = true then 32 else 0) + (if g = true then 64 else 0) + (if h = true then 128 else 0)
def mkc (b : Nat → Bool) : Nat := mk8 (b 0) (b 1) (b 2) (b 3) (b 4) (b 5) (b 6) (b 7)
def st1 (b : Nat → Bool) (c : Nat) : Nat → Bool := fun i => if i = c then true else b i
theorem mkc_t {c : Nat} (hc : c < 8) (b : Nat → Bool) : ((nI (mkc b) &&& ((1 : Int32) <<< (nI c &&& 31)) = 0) ↔ b c = false) ∧ (nI (mkc b) ||| ((1 : Int32) <<< (nI c &&& 31))) = nI (mkc (st1 b c)) ∧ (nI (mkc b) ||| (0 : Int32)) = nI (mkc b) := by
  rcases (show c = 0 ∨ c = 1 ∨ c = 2 ∨ c = 3 ∨ c = 4 ∨ c = 5 ∨ c = 6 ∨ c = 7 by omega) with rfl | rfl | rfl | rfl | rfl | rfl | rfl | rfl
  · have k1 : ∀ a b c d e f g h, ((nI (mk8 a b c d e f g h) &&& ((1 : Int32) <<< (nI 0 &&& 31)) = 0) ↔ a = false) ∧ (nI (mk8 a b c d e f g h) ||| ((1 : Int32) <<< (nI 0 &&& 31))) = nI (mk8 true b c d e f g h) ∧ (nI (mk8 a b c d e f g h) ||| (0 : Int32)) = nI (mk8 a b c d e f g h) := by decide +kernel
    exact k1 _ _ _ _ _ _ _ _
  · have k1 : ∀ a b c d e f g h, ((nI (mk8 a b c d e f g h) &&& ((1 : Int32) <<< (nI 1 &&& 31)) = 0) ↔ b = false) ∧ (nI (mk8 a b c d e f g h) ||| ((1 : Int32) <<< (nI 1 &&& 31))) = nI (mk8 a true c d e f g h) ∧ (nI (mk8 a b c d e f g h) ||| (0 : Int32)) = nI (mk8 a b c d e f g h) := by decide +kernel
    exact k1 _ _ _ _ _ _ _ _
  · have k1 : ∀ a b c d e f g h, ((nI (mk8 a b c d e f g h) &&& ((1 : Int32) <<< (nI 2 &&& 31)) = 0) ↔ c = false) ∧ (nI (mk8 a b c d e f g h) ||| ((1 : Int32) <<< (nI 2 &&& 31))) = nI (mk8 a b true d e f g h) ∧ (nI (mk8 a b c d e f g h) ||| (0 : Int32)) = nI (mk8 a b c d e f g h) := by decide +kernel
    exact k1 _ _ _ _ _ _ _ _
  · have k1 : ∀ a b c d e f g h, ((nI (mk8 a b c d e f g h) &&& ((1 : Int32) <<< (nI 3 &&& 31)) = 0) ↔ d = false) ∧ (nI (mk8 a b c d e f g h) ||| ((1 : Int32) <<< (nI 3 &&& 31))) = nI (mk8 a b c true e f g h) ∧ (nI (mk8 a b c d e f g h) ||| (0 : Int32)) = nI (mk8 a b c d e f g h) := by decide +kernel
    exact k1 _ _ _ _ _ _ _ _
  · have k1 : ∀ a b c d e f g h, ((nI (mk8 a b c d e f g h) &&& ((1 : Int32) <<< (nI 4 &&& 31)) = 0) ↔ e = false) ∧ (nI (mk8 a b c d e f g h) ||| ((1 : Int32) <<< (nI 4 &&& 31))) = nI (mk8 a b c d true f g h) ∧ (nI (mk8 a b c d e f g h) ||| (0 : Int32)) = nI (mk8 a b c d e f g h) := by decide +kernel
    exact k1 _ _ _ _ _ _ _ _
  · have k1 : ∀ a b c d e f g h, ((nI (mk8 a b c d e f g h) &&& ((1 : Int32) <<< (nI 5 &&& 31)) = 0) ↔ f = false) ∧ (nI (mk8 a b c d e f g h) ||| ((1 : Int32) <<< (nI 5 &&& 31))) = nI (mk8 a b c d e true g h) ∧ (nI (mk8 a b c d e f g h) ||| (0 : Int32)) = nI (mk8 a b c d e f g h) := by decide +kernel
    exact k1 _ _ _ _ _ _ _ _
  · have k1 : ∀ a b c d e f g h, ((nI (mk8 a b c d e f g h) &&& ((1 : Int32) <<< (nI 6 &&& 31)) = 0) ↔ g = false) ∧ (nI (mk8 a b c d e f g h) ||| ((1 : Int32) <<< (nI 6 &&& 31))) = nI (mk8 a b c d e f true h) ∧ (nI (mk8 a b c d e f g h) ||| (0 : Int32)) = nI (mk8 a b c d e f g h) := by decide +kernel
    exact k1 _ _ _ _ _ _ _ _
  · have k1 : ∀ a b c d e f g h, ((nI (mk8 a b c d e f g h) &&& ((1 : Int32) <<< (nI 7 &&& 31)) = 0) ↔ h = false) ∧ (nI (mk8 a b c d e f g h) ||| ((1 : Int32) <<< (nI 7 &&& 31))) = nI (mk8 a b c d e f g true) ∧ (nI (mk8 a b c d e f g h) ||| (0 : Int32)) = nI (mk8 a b c d e f g h) := by decide +kernel
    exact k1 _ _ _ _ _ _ _ _
/-- the best CELL so far: the CELL, its most alike, its pairs -/
def nup (go : Nat → Bool) (ctf P R : Nat → Nat) (k : Nat) (st : Option (Nat × Nat × Nat)) : Option (Nat × Nat × Nat) := if go k = true then st else if ctf k < 2 then st else match st with
  | none => some (k, R k, P k)
  | some (b, a, p) => if R k * p < a * P k then some (k, R k, P k) else some (b, a, p)
def nfd (go : Nat → Bool) (ctf P R : Nat → Nat) : Nat → Option (Nat × Nat × Nat)
  | 0 => none
  | k + 1 => nup go ctf P R k (nfd go ctf P R k)
section NF
variable {go : Nat → Bool} {ctf P R : Nat → Nat}
/-- all that stands there is bounded -/
def nok (N : Nat) (st : Option (Nat × Nat × Nat)) : Prop := match st with
  | none => True
  | some (b, a, p) => b < N ∧ a ≤ 3420 ∧ 0 < p ∧ p ≤ 3420
theorem nfd_ok (hP : ∀ k, P k ≤ 3420) (hR : ∀ k, k < 48 → R k ≤ 3420) (hc : ∀ k, ctf k ≤ P k) {N : Nat} (hN : N ≤ 48) : ∀ k, k ≤ N → nok N (nfd go ctf P R k) := by
  intro k
  induction k with
  | zero => intro _; exact trivial
  | succ k ih =>
    intro hk
    have h1 := ih (by omega)
    have hp := hP k
    have hr := hR k (by omega)
    have hcc := hc k
    show nok N (nup go ctf P R k (nfd go ctf P R k))
    unfold nup
    by_cases g : go k = true
    · rw [if_pos g]; exact h1
    · rw [if_neg g]
      by_cases c : ctf k < 2
      · rw [if_pos c]; exact h1
      · rw [if_neg c]
        match hst : nfd go ctf P R k with
        | none => exact ⟨by omega, hr, by omega, hp⟩
        | some (b, a, p) =>
          rw [hst] at h1
          show nok N (if R k * p < a * P k then some (k, R k, P k) else some (b, a, p))
          by_cases q : R k * p < a * P k
          · rw [if_pos q]; exact ⟨by omega, hr, by omega, hp⟩
          · rw [if_neg q]; exact h1
/-- once a CELL has come, what is best does as well -/
theorem nfd_as (hP : ∀ k, P k ≤ 3420) (hR : ∀ k, k < 48 → R k ≤ 3420) (hc : ∀ k, ctf k ≤ P k) {j : Nat} (hj : j < 48) (hg : go j = false) (hct : ¬ ctf j < 2) : ∀ d, j + 1 + d ≤ 48 → ∃ b a p, nfd go ctf P R (j + 1 + d) = some (b, a, p) ∧ a * P j ≤ R j * p := by
  intro d
  induction d with
  | zero =>
    intro hd
    show ∃ b a p, nup go ctf P R j (nfd go ctf P R j) = some (b, a, p) ∧ a * P j ≤ R j * p
    unfold nup
    rw [hg, if_neg Bool.false_ne_true, if_neg hct]
    match hst : nfd go ctf P R j with
    | none => exact ⟨j, R j, P j, rfl, Nat.le_refl _⟩
    | some (b, a, p) =>
      show ∃ b' a' p', (if R j * p < a * P j then some (j, R j, P j) else some (b, a, p)) = some (b', a', p') ∧ a' * P j ≤ R j * p'
      by_cases q : R j * p < a * P j
      · rw [if_pos q]; exact ⟨j, R j, P j, rfl, Nat.le_refl _⟩
      · rw [if_neg q]; exact ⟨b, a, p, rfl, by omega⟩
  | succ d ih =>
    intro hd
    obtain ⟨b, a, p, h1, h2⟩ := ih (by omega)
    have hok := nfd_ok (go := go) hP hR hc (N := 48) (Nat.le_refl _) (j + 1 + d) (by omega)
    rw [h1] at hok
    have hp : 0 < p := hok.2.2.1
    show ∃ b a p, nup go ctf P R (j + 1 + d) (nfd go ctf P R (j + 1 + d)) = some (b, a, p) ∧ a * P j ≤ R j * p
    rw [h1]
    unfold nup
    generalize j + 1 + d = i
    by_cases g : go i = true
    · rw [if_pos g]; exact ⟨b, a, p, rfl, h2⟩
    · rw [if_neg g]
      by_cases c : ctf i < 2
      · rw [if_pos c]; exact ⟨b, a, p, rfl, h2⟩
      · rw [if_neg c]
        show ∃ b' a' p', (if R i * p < a * P i then some (i, R i, P i) else some (b, a, p)) = some (b', a', p') ∧ a' * P j ≤ R j * p'
        by_cases q : R i * p < a * P i
        · rw [if_pos q]
          refine ⟨i, R i, P i, rfl, Nat.le_of_mul_le_mul_right ?_ hp⟩
          have m1 : R i * p * P j ≤ a * P i * P j := Nat.mul_le_mul_right _ (Nat.le_of_lt q)
          have m2 : a * P j * P i ≤ R j * p * P i := Nat.mul_le_mul_right _ h2
          have e1 : R i * P j * p = R i * p * P j := Nat.mul_right_comm _ _ _
          have e2 : a * P i * P j = a * P j * P i := Nat.mul_right_comm _ _ _
          have e3 : R j * p * P i = R j * P i * p := Nat.mul_right_comm _ _ _
          omega
        · rw [if_neg q]; exact ⟨b, a, p, rfl, h2⟩
theorem nup_skip (hP : ∀ k, P k ≤ 3420) (hR : ∀ k, k < 48 → R k ≤ 3420) (hc : ∀ k, ctf k ≤ P k) {j k : Nat} (hjk : j < k) (hk : k < 48) (hg : go j = false) (e1 : ctf k = ctf j) (e2 : P k = P j) (e3 : R k = R j) : nup go ctf P R k (nfd go ctf P R k) = nfd go ctf P R k := by
  unfold nup
  by_cases g : go k = true
  · rw [if_pos g]
  · rw [if_neg g]
    by_cases c : ctf k < 2
    · rw [if_pos c]
    · rw [if_neg c]
      obtain ⟨b, a, p, h1, h2⟩ := nfd_as (go := go) hP hR hc (show j < 48 by omega) hg (by rw [← e1]; exact c) (k - (j + 1)) (by omega)
      rw [show j + 1 + (k - (j + 1)) = k by omega] at h1
      rw [h1]
      show (if R k * p < a * P k then some (k, R k, P k) else some (b, a, p)) = some (b, a, p)
      rw [if_neg (by rw [e2, e3]; omega)]
end NF
def nb1 (st : Option (Nat × Nat × Nat)) : Int32 := match st with
  | none => -1
  | some (b, _, _) => nI b
def nb2 (st : Option (Nat × Nat × Nat)) : Int32 := match st with
  | none => 0
  | some (_, a, _) => nI a
def nb3 (st : Option (Nat × Nat × Nat)) : Int32 := match st with
  | none => 0
  | some (_, _, p) => nI p
def nc4 (st : Option (Nat × Nat × Nat)) : Int64 := match st with
  | none => 0
  | some (_, a, _) => (nI a).toInt64
def nc6 (st : Option (Nat × Nat × Nat)) : Int64 := match st with
  | none => 1
  | some (_, _, p) => (nI p).toInt64
def goF (l : Nat → Nat → Nat) (q : Nat → Nat) (cell : Nat) : Bool := match lst (lkp l cell 0 999) (q 0) with
  | none => false
  | some i => decide (l i 6 = 1)
section NX
variable {M : eM} {cc th : Nat} {n : Nat → Nat} {v : Nat → Nat → Nat} {o w q : Nat → Nat} {l t r : Nat → Nat → Nat} {cell : Nat}
theorem px_gone (hC : Ctx M cc n v th o w q l t r) (hcell : cell < 48) : fX10_isGoneInFront (nI cell) M = some (if goF l q cell = true then 1 else 0, M) := by
  have hok := hC.2.1.1
  have hLX := hC.2.1.2.1
  have hX := px_look (Or.inl rfl) hok hLX (cell := cell) (side := 0) (known := 999) (by omega) (by omega) (by omega)
  have hX : fX8_latestLook 30 (nI cell) 0 999 M = _ := hX
  have hS := px_shadeL (Or.inl rfl) hok hLX (z := lst (lkp l cell 0 999) (q 0)) (fun i hi => (lst_lt hi).1) (k := 0) (by decide)
  have hS : fX8_lookShade 30 (enc id (lst (lkp l cell 0 999) (q 0))) 0 M = _ := hS
  unfold fX10_isGoneInFront fX10_isGoneInFront_0 goF
  rw [hX, ev_ci, hS, ev_ci]
  cases hz : lst (lkp l cell 0 999) (q 0) with
  | none =>
    show (if (-1 : Int32) = -5 then _ else _) = _
    rw [if_neg (by decide)]
    rfl
  | some i =>
    have hi := (lst_lt hz).1
    have b := (hok.2.2.2.2.1 i hi).2.2.2.1 0 (by decide)
    show (if (if l i 6 = 1 then (-5 : Int32) else nI (l i (3 + 0))) = -5 then some (1, M) else some (0, M)) = some (if decide (l i 6 = 1) = true then 1 else 0, M)
    by_cases hg : l i 6 = 1
    · rw [if_pos hg, if_pos rfl, decide_eq_true hg, if_pos rfl]
    · rw [if_neg hg, if_neg (ev_neg (by omega) (by decide)), decide_eq_false hg, if_neg Bool.false_ne_true]
theorem py_gone (hC : Ctx M cc n v th o w q l t r) (hcell : cell < 48) (A B : eM → Option (Int32 × eM)) : ea_ci (fX11_lookAt (nI cell) 0 999 M) (fun r6 M7 => if r6 < 0 then A M7 else ea_ck (ea_ix (r6 + (6 : Int32)) (ea_len 114)) (if (M7.1 114 (r6 + (6 : Int32)).toNatClampNeg) = (1 : Int32) then B M7 else A M7)) = if goF l q cell = true then B M else A M := by
  have hok := hC.2.1.1
  have hq := hok.1
  have hLY := hC.2.1.2.2.1
  have hY := py_look hok hLY (cell := cell) (side := 0) (known := 999) (by omega) (by omega) (by omega)
  have hY : fX11_lookAt (nI cell) 0 999 M = _ := hY
  rw [hY, ev_ci]
  unfold goF
  cases hz : lst (lkp l cell 0 999) (q 0) with
  | none =>
    show (if (-1 : Int32) < 0 then A M else _) = if false = true then B M else A M
    rw [if_pos (by decide), if_neg Bool.false_ne_true]
  | some i =>
    have hi := (lst_lt hz).1
    have b6 := (hok.2.2.2.2.1 i hi).2.2.2.2.1
    have g6 : M.1 114 (4 + 7 * i + 6) = nI (l i 6) := by have := hLY.2.1 i 6 hi (by decide); rw [Nat.zero_add] at this; exact this
    show (if nI (4 + 7 * i) < 0 then A M else ea_ck (ea_ix (nI (4 + 7 * i) + 6) (ea_len 114)) (if M.1 114 (nI (4 + 7 * i) + 6).toNatClampNeg = 1 then B M else A M)) = if decide (l i 6 = 1) = true then B M else A M
    by_cases hg : l i 6 = 1
    · rw [decide_eq_true hg]
      simp (disch := omega) only [ev_ck, ev_ci, ev_cv, ev_lt_, ↓reduceIte, ev_lens, ev_ix, ev_nz, ev_cl, ev_cll, ev_add, ev_addl, ev_ladd, ev_mul, ev_mull, ev_lmul, ev_sub, ev_subl, ev_lsub, ev_lt, ev_ltl, ev_llt, ev_le, ev_lel, ev_lle, ev_eq, ev_eql, ev_leq, ev_nm1, ev_nm5, ev_m1n, ev_neg1, ev_ltT, ev_ltF, ev_leT, ev_leF, ev_eqT, ev_eqF, ev_one0, ev_zero1, Nat.reduceAdd, Nat.reduceMul, Nat.reduceSub, ea_pI_eq, ev_pIn, ev_pIe, ea_pI_r, eq_self, g6]
    · rw [decide_eq_false hg]
      simp (disch := omega) only [ev_ck, ev_ci, ev_cv, ev_lt_, ↓reduceIte, ev_lens, ev_ix, ev_nz, ev_cl, ev_cll, ev_add, ev_addl, ev_ladd, ev_mul, ev_mull, ev_lmul, ev_sub, ev_subl, ev_lsub, ev_lt, ev_ltl, ev_llt, ev_le, ev_lel, ev_lle, ev_eq, ev_eql, ev_leq, ev_nm1, ev_nm5, ev_m1n, ev_neg1, ev_ltT, ev_ltF, ev_leT, ev_leF, ev_eqT, ev_eqF, ev_one0, ev_zero1, Nat.reduceAdd, Nat.reduceMul, Nat.reduceSub, ea_pI_eq, ev_pIn, ev_pIe, ea_pI_r, eq_self, g6, Bool.false_eq_true]
end NX
