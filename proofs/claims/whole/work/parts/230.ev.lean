/-- stepping a pure program by rewriting -/
theorem ev_ck {α : Type} {k : Option α} : ea_ck true k = k := (Eq.refl k).trans (Eq.refl k)
theorem ev_ci {α : Type} {k : Int32 → eM → Option α} {x : Int32} {M : eM} : ea_ci (some (x, M)) k = k x M := (Eq.refl (k x M)).trans (Eq.refl (k x M))
theorem ev_cv {α : Type} {k : eM → Option α} {M : eM} : ea_cv (some M) k = k M := (Eq.refl (k M)).trans (Eq.refl (k M))
theorem ev_lt_ {α β : Type} {v : α} {k : α → Option β} : ea_lt v k = k v := (Eq.refl (k v)).trans (Eq.refl (k v))
theorem ev_lens : ea_len 2 = 900 ∧ ea_len 5 = 855 ∧ ea_len 6 = 855 ∧ ea_len 11 = 3 ∧ ea_len 12 = 3 ∧ ea_len 13 = 5 ∧ ea_len 14 = 30 ∧ ea_len 15 = 4 ∧ ea_len 16 = 4 ∧ ea_len 17 = 96 ∧ ea_len 18 = 2 ∧ ea_len 19 = 18 ∧ ea_len 21 = 3 ∧ ea_len 22 = 3 ∧ ea_len 23 = 5 ∧ ea_len 24 = 30 ∧ ea_len 25 = 4 ∧ ea_len 26 = 4 ∧ ea_len 27 = 96 ∧ ea_len 28 = 2 ∧ ea_len 29 = 18 ∧ ea_len 31 = 540 ∧ ea_len 32 = 120 ∧ ea_len 33 = 120 ∧ ea_len 35 = 540 ∧ ea_len 36 = 120 ∧ ea_len 37 = 120 ∧ ea_len 39 = 540 ∧ ea_len 40 = 120 ∧ ea_len 41 = 120 ∧ ea_len 43 = 540 ∧ ea_len 44 = 120 ∧ ea_len 45 = 120 ∧ ea_len 46 = 3 ∧ ea_len 52 = 138 ∧ ea_len 53 = 855 ∧ ea_len 54 = 3 ∧ ea_len 55 = 3 ∧ ea_len 56 = 22 ∧ ea_len 57 = 22 ∧ ea_len 58 = 66 ∧ ea_len 59 = 66 ∧ ea_len 62 = 138 ∧ ea_len 63 = 855 ∧ ea_len 64 = 3 ∧ ea_len 65 = 3 ∧ ea_len 66 = 22 ∧ ea_len 67 = 22 ∧ ea_len 68 = 66 ∧ ea_len 69 = 66 ∧ ea_len 71 = 3420 ∧ ea_len 73 = 3 ∧ ea_len 74 = 3 ∧ ea_len 75 = 3 ∧ ea_len 76 = 3 ∧ ea_len 77 = 189 ∧ ea_len 79 = 48 ∧ ea_len 101 = 900 ∧ ea_len 102 = 28 ∧ ea_len 103 = 5 ∧ ea_len 104 = 4 ∧ ea_len 105 = 2 ∧ ea_len 106 = 60 ∧ ea_len 107 = 8 ∧ ea_len 108 = 192 ∧ ea_len 109 = 36 ∧ ea_len 110 = 855 ∧ ea_len 111 = 855 ∧ ea_len 112 = 855 ∧ ea_len 113 = 855 ∧ ea_len 114 = 3416 ∧ ea_len 115 = 3 ∧ ea_len 116 = 22 ∧ ea_len 117 = 22 ∧ ea_len 118 = 66 ∧ ea_len 119 = 3420 ∧ ea_len 120 = 3420 ∧ ea_len 121 = 88 ∧ ea_len 122 = 855 ∧ ea_len 123 = 855 ∧ ea_len 124 = 48 ∧ ea_len 125 = 8192 ∧ ea_len 126 = 8192 ∧ ea_len 127 = 8 ∧ ea_len 128 = 3 ∧ ea_len 129 = 3 := by
  refine ⟨?_, ?_, ?_, ?_, ?_, ?_, ?_, ?_, ?_, ?_, ?_, ?_, ?_, ?_, ?_, ?_, ?_, ?_, ?_, ?_, ?_, ?_, ?_, ?_, ?_, ?_, ?_, ?_, ?_, ?_, ?_, ?_, ?_, ?_, ?_, ?_, ?_, ?_, ?_, ?_, ?_, ?_, ?_, ?_, ?_, ?_, ?_, ?_, ?_, ?_, ?_, ?_, ?_, ?_, ?_, ?_, ?_, ?_, ?_, ?_, ?_, ?_, ?_, ?_, ?_, ?_, ?_, ?_, ?_, ?_, ?_, ?_, ?_, ?_, ?_, ?_, ?_, ?_, ?_, ?_, ?_, ?_, ?_, ?_, ?_, ?_⟩ <;> rfl
theorem ev_ix {k n : Nat} (h : k < n) (hn : n < 2147483648) : ea_ix (nI k) n = true := pn_ix h hn
theorem ev_nz {k : Nat} (h : 0 < k) (hn : k < 2147483648) : ea_nz (nI k) = true := pn_nz h hn
theorem ev_cl {k : Nat} (h : k < 2147483648) : (nI k).toNatClampNeg = k := nI_clamp h
theorem ev_cll {k : Nat} (h : (OfNat.ofNat k : Nat) < 2147483648) : (no_index (OfNat.ofNat k) : Int32).toNatClampNeg = OfNat.ofNat k := nI_clamp h
theorem ev_add (a b : Nat) : nI a + nI b = nI (a + b) := nI_add a b
theorem ev_addl (a b : Nat) : nI a + (no_index (OfNat.ofNat b)) = nI (a + OfNat.ofNat b) := nI_add a b
theorem ev_ladd (a b : Nat) : (no_index (OfNat.ofNat b) : Int32) + nI a = nI (OfNat.ofNat b + a) := nI_add b a
theorem ev_mul (a b : Nat) : nI a * nI b = nI (a * b) := pk_mul a b
theorem ev_mull (a b : Nat) : nI a * (no_index (OfNat.ofNat b)) = nI (a * OfNat.ofNat b) := pk_mul a b
theorem ev_lmul (a b : Nat) : (no_index (OfNat.ofNat b) : Int32) * nI a = nI (OfNat.ofNat b * a) := pk_mul b a
theorem ev_sub {a b : Nat} (h : b ≤ a) : nI a - nI b = nI (a - b) := pk_sub h
theorem ev_subl {a b : Nat} (h : OfNat.ofNat b ≤ a) : nI a - (no_index (OfNat.ofNat b)) = nI (a - OfNat.ofNat b) := pk_sub (b := b) h
theorem ev_lsub {a b : Nat} (h : a ≤ OfNat.ofNat b) : (no_index (OfNat.ofNat b) : Int32) - nI a = nI (OfNat.ofNat b - a) := pk_sub (a := b) h
theorem ev_lt {a b : Nat} (ha : a < 2147483648) (hb : b < 2147483648) : (nI a < nI b) = (a < b) := pn_ltI ha hb
theorem ev_ltl {a b : Nat} (ha : a < 2147483648) (hb : OfNat.ofNat b < 2147483648) : (nI a < (no_index (OfNat.ofNat b))) = (a < OfNat.ofNat b) := pn_ltI ha (b := b) hb
theorem ev_llt {a b : Nat} (ha : a < 2147483648) (hb : OfNat.ofNat b < 2147483648) : ((no_index (OfNat.ofNat b) : Int32) < nI a) = (OfNat.ofNat b < a) := pn_ltI (a := b) hb ha
theorem ev_le {a b : Nat} (ha : a < 2147483648) (hb : b < 2147483648) : (nI a ≤ nI b) = (a ≤ b) := pn_leI ha hb
theorem ev_lel {a b : Nat} (ha : a < 2147483648) (hb : OfNat.ofNat b < 2147483648) : (nI a ≤ (no_index (OfNat.ofNat b))) = (a ≤ OfNat.ofNat b) := pn_leI ha (b := b) hb
theorem ev_lle {a b : Nat} (ha : a < 2147483648) (hb : OfNat.ofNat b < 2147483648) : ((no_index (OfNat.ofNat b) : Int32) ≤ nI a) = (OfNat.ofNat b ≤ a) := pn_leI (a := b) hb ha
theorem ev_eq {a b : Nat} (ha : a < 2147483648) (hb : b < 2147483648) : (nI a = nI b) = (a = b) := pn_eqI ha hb
theorem ev_eql {a b : Nat} (ha : a < 2147483648) (hb : OfNat.ofNat b < 2147483648) : (nI a = (no_index (OfNat.ofNat b))) = (a = OfNat.ofNat b) := pn_eqI ha (b := b) hb
theorem ev_leq {a b : Nat} (ha : a < 2147483648) (hb : OfNat.ofNat b < 2147483648) : ((no_index (OfNat.ofNat b) : Int32) = nI a) = (OfNat.ofNat b = a) := pn_eqI (a := b) hb ha
theorem ev_neg {a : Nat} {x : Int32} (ha : a < 2147483648) (hx : x < 0) : ¬ nI a = x := fun h => nI_pos ha (h ▸ hx)
theorem ev_nm1 {a : Nat} (ha : a < 2147483648) : (nI a = -1) = False := eq_false (ev_neg ha (by decide))
theorem ev_nm5 {a : Nat} (ha : a < 2147483648) : (nI a = -5) = False := eq_false (ev_neg ha (by decide))
theorem ev_m1n {a : Nat} (ha : a < 2147483648) : (-1 = nI a) = False := eq_false (fun h => ev_neg ha (by decide) h.symm)
theorem ev_neg1 : ((-1 : Int32) < 0) = True := by decide
theorem ev_ltT {a b : Nat} (h : a < b) : (a < b) = True := eq_true h
theorem ev_ltF {a b : Nat} (h : ¬ a < b) : (a < b) = False := eq_false h
theorem ev_leT {a b : Nat} (h : a ≤ b) : (a ≤ b) = True := eq_true h
theorem ev_leF {a b : Nat} (h : ¬ a ≤ b) : (a ≤ b) = False := eq_false h
theorem ev_eqT {a b : Nat} (h : a = b) : (a = b) = True := eq_true h
theorem ev_eqF {a b : Nat} (h : ¬ a = b) : (a = b) = False := eq_false h
theorem ev_one0 : ((1 : Int32) = 0) = False := by decide
theorem ev_zero1 : ((0 : Int32) = 1) = False := by decide
theorem ev_pIn {M : eM} {c k a j : Nat} {x : Int32} (h : a ≠ c ∨ j ≠ k) : (ea_pI M c k x).1 a j = M.1 a j := ea_pI_ne h
theorem ev_pIe {M : eM} {c k a j : Nat} {x : Int32} (h : a = c) (h2 : j = k) : (ea_pI M c k x).1 a j = x := by subst h; subst h2; exact ea_pI_eq
theorem py_tried {M : eM} {q : Nat → Nat} {l t r : Nat → Nat → Nat} (hok : pn_Lok q l t r) (h : pn_LY M 0 q l t r) (hq : q 1 < 20) (y : Int32) (hy : y = nI (634 + 6 * q 1)) {step cell hrs : Nat} {A : Nat → Nat} :
    let M2 := ea_pI (ea_pI (ea_pI (ea_pI (ea_pI (ea_pI (ea_pI (ea_pI M 114 3 (nI step)) 114 (634 + 6 * q 1) (nI step)) 114 (634 + 6 * q 1 + 1) (nI cell)) 114 (634 + 6 * q 1 + 2) (nI hrs)) 114 (634 + 6 * q 1 + 3) (nI (A 0))) 114 (634 + 6 * q 1 + 4) (nI (A 1))) 114 (634 + 6 * q 1 + 5) (nI (A 2))) 114 1 (nI (q 1 + 1))
    pn_LY M2 0 (ad_q q 1 step) l (ad_l t (q 1) [step, cell, hrs, A 0, A 1, A 2]) r ∧ FrT M M2 ∧ (∀ c k, c ≠ 114 → M2.1 c k = M.1 c k) := by
  intro M2
  have b0 := hok.1
  have b2 := hok.2.2.1
  have old : ∀ c k, c ≠ 114 ∨ (k ≠ 1 ∧ k ≠ 3 ∧ (k < 634 + 6 * q 1 ∨ 634 + 6 * q 1 + 5 < k)) → M2.1 c k = M.1 c k := by
    intro c k hk
    simp (disch := omega) only [ev_ck, ev_ci, ev_cv, ev_lt_, ↓reduceIte, ev_lens, ev_ix, ev_nz, ev_cl, ev_cll, ev_add, ev_addl, ev_ladd, ev_mul, ev_mull, ev_lmul, ev_sub, ev_subl, ev_lsub, ev_lt, ev_ltl, ev_llt, ev_le, ev_lel, ev_lle, ev_eq, ev_eql, ev_leq, ev_nm1, ev_nm5, ev_m1n, ev_neg1, ev_ltT, ev_ltF, ev_leT, ev_leF, ev_eqT, ev_eqF, ev_one0, ev_zero1, Nat.reduceAdd, Nat.reduceMul, Nat.reduceSub, ea_pI_eq, ev_pIn, ev_pIe, ea_pI_r, eq_self, M2]
  refine ⟨⟨?_, ?_, ?_, ?_⟩, ?_, fun c k hc => old _ _ (by omega)⟩
  · intro k hk
    rw [Nat.zero_add]
    rcases (show k = 0 ∨ k = 1 ∨ k = 2 ∨ k = 3 by omega) with rfl | rfl | rfl | rfl
    · rw [old _ _ (by omega)]; exact h.1 0 (by decide)
    · simp (disch := omega) only [ev_ck, ev_ci, ev_cv, ev_lt_, ↓reduceIte, ev_lens, ev_ix, ev_nz, ev_cl, ev_cll, ev_add, ev_addl, ev_ladd, ev_mul, ev_mull, ev_lmul, ev_sub, ev_subl, ev_lsub, ev_lt, ev_ltl, ev_llt, ev_le, ev_lel, ev_lle, ev_eq, ev_eql, ev_leq, ev_nm1, ev_nm5, ev_m1n, ev_neg1, ev_ltT, ev_ltF, ev_leT, ev_leF, ev_eqT, ev_eqF, ev_one0, ev_zero1, Nat.reduceAdd, Nat.reduceMul, Nat.reduceSub, ea_pI_eq, ev_pIn, ev_pIe, ea_pI_r, eq_self, M2]
      rfl
    · rw [old _ _ (by omega)]; exact h.1 2 (by decide)
    · simp (disch := omega) only [ev_ck, ev_ci, ev_cv, ev_lt_, ↓reduceIte, ev_lens, ev_ix, ev_nz, ev_cl, ev_cll, ev_add, ev_addl, ev_ladd, ev_mul, ev_mull, ev_lmul, ev_sub, ev_subl, ev_lsub, ev_lt, ev_ltl, ev_llt, ev_le, ev_lel, ev_lle, ev_eq, ev_eql, ev_leq, ev_nm1, ev_nm5, ev_m1n, ev_neg1, ev_ltT, ev_ltF, ev_leT, ev_leF, ev_eqT, ev_eqF, ev_one0, ev_zero1, Nat.reduceAdd, Nat.reduceMul, Nat.reduceSub, ea_pI_eq, ev_pIn, ev_pIe, ea_pI_r, eq_self, M2]
      rfl
  · intro i k hi hk
    have hi : i < q 0 := hi
    rw [old _ _ (by omega)]
    exact h.2.1 i k hi hk
  · intro i k hi hk
    have hi : i < q 1 + 1 := hi
    by_cases hiq : i = q 1
    · subst hiq
      have er : ad_l t (q 1) [step, cell, hrs, A 0, A 1, A 2] (q 1) k = [step, cell, hrs, A 0, A 1, A 2].getD k 0 := if_pos rfl
      rw [er, Nat.zero_add]
      rcases (show k = 0 ∨ k = 1 ∨ k = 2 ∨ k = 3 ∨ k = 4 ∨ k = 5 by omega) with rfl | rfl | rfl | rfl | rfl | rfl <;> simp (disch := omega) only [ev_ck, ev_ci, ev_cv, ev_lt_, ↓reduceIte, ev_lens, ev_ix, ev_nz, ev_cl, ev_cll, ev_add, ev_addl, ev_ladd, ev_mul, ev_mull, ev_lmul, ev_sub, ev_subl, ev_lsub, ev_lt, ev_ltl, ev_llt, ev_le, ev_lel, ev_lle, ev_eq, ev_eql, ev_leq, ev_nm1, ev_nm5, ev_m1n, ev_neg1, ev_ltT, ev_ltF, ev_leT, ev_leF, ev_eqT, ev_eqF, ev_one0, ev_zero1, Nat.reduceAdd, Nat.reduceMul, Nat.reduceSub, ea_pI_eq, ev_pIn, ev_pIe, ea_pI_r, eq_self, M2] <;> rfl
    · have er : ad_l t (q 1) [step, cell, hrs, A 0, A 1, A 2] i k = t i k := if_neg hiq
      rw [er, old _ _ (by omega)]
      exact h.2.2.1 i k (by omega) hk
  · intro i k hi hk
    have hi : i < q 2 := hi
    rw [old _ _ (by omega)]
    exact h.2.2.2 i k hi hk
  · exact ⟨fun c k h1 h2 => old _ _ (by omega), rfl⟩
