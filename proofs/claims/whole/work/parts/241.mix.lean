theorem ev_div {a b : Nat} (ha : a < 2147483648) (h0 : 0 < b) (hb : b < 2147483648) : nI a / nI b = nI (a / b) := pk_div ha h0 hb
theorem ev_divl {a b : Nat} (ha : a < 2147483648) (h0 : (0 : Nat) < OfNat.ofNat b) (hb : (OfNat.ofNat b : Nat) < 2147483648) : nI a / (no_index (OfNat.ofNat b)) = nI (a / OfNat.ofNat b) := pk_div (d := b) ha h0 hb
theorem ev_rem {a b : Nat} (ha : a < 2147483648) (h0 : 0 < b) (hb : b < 2147483648) : nI a - nI a / nI b * nI b = nI (a % b) := pk_rem ha h0 hb
def pn_f (a : Nat) : Prop := a = 50 ∨ a = 60
/-- what a palette holds so far -/
def PX (M0 M : eM) (p : Nat) (v : Nat → Nat → Nat) (h : Nat) (D : Nat → Nat → Prop) : Prop :=
  (∀ row c, c < 3 → D row c → M.1 (p + 1) (row * 3 + c) = nI (sp_tk v row h c)) ∧ (∀ c k, (c ≠ p + 1 ∨ 135 ≤ k) → M.1 c k = M0.1 c k) ∧ M.2.2 = M0.2.2
def pD (f c m : Nat) (row c' : Nat) : Prop := row < 9 * f ∨ (row < 9 * f + 9 ∧ (c' < c ∨ (c' = c ∧ row + 1 < 9 * f + m)))
theorem PX.C {M0 M : eM} {p : Nat} (hp : p = 51 ∨ p = 61) {v : Nat → Nat → Nat} {h : Nat} {D : Nat → Nat → Prop} (hP : PX M0 M p v h D) : FrC M0 M := ⟨fun c k hk => hP.2.1 c k (by have := isKC_in hk; omega), hP.2.2⟩
theorem PX.mono {M0 M : eM} {p : Nat} {v : Nat → Nat → Nat} {h : Nat} {D D' : Nat → Nat → Prop} (hP : PX M0 M p v h D) (hd : ∀ row c, c < 3 → D' row c → D row c) : PX M0 M p v h D' := ⟨fun row c hc hD => hP.1 row c hc (hd row c hc hD), hP.2⟩
section MX
variable {M0 : eM} {cc : Nat} {n : Nat → Nat} {v : Nat → Nat → Nat} {p h : Nat}
theorem px_mix_47 (hp : p = 51 ∨ p = 61) (ho : pn_ok n v) {f c q2 : Nat} (hf : f < n 4) (hc : c < 3) (k88 : Int32 → Nat → Int32 → Int32 → Int32 → eM → Option eM) :
    ∀ (d k m : Nat) (M : eM), 10 - m = d → 1 ≤ m → m ≤ 10 → d < k → PX M0 M p v h (pD f c m) → ∃ M', fX5_mix_47 k88 p k (nI h) q2 (nI f) (nI (sp_str v f h)) (nI c) (nI (v 2 (6 * f + c))) (nI m) M = k88 (nI h) q2 (nI f) (nI (sp_str v f h)) (nI c) M' ∧ PX M0 M' p v h (pD f c 10) := by
  have h4 := ho.2.2.2.2.1
  have lp : ea_len (p + 1) = 138 := by rcases hp with rfl | rfl <;> rfl
  intro d
  induction d with
  | zero =>
    intro k m M hd h1 h2 hk hP
    obtain ⟨k, rfl⟩ : ∃ k', k = k' + 1 := ⟨k - 1, by omega⟩
    obtain rfl : m = 10 := by omega
    refine ⟨M, ?_, hP⟩
    simp (disch := omega) only [ev_ck, ev_ci, ev_cv, ev_lt_, ↓reduceIte, ev_lens, ev_ix, ev_nz, ev_cl, ev_cll, ev_add, ev_addl, ev_ladd, ev_mul, ev_mull, ev_lmul, ev_sub, ev_subl, ev_lsub, ev_lt, ev_ltl, ev_llt, ev_le, ev_lel, ev_lle, ev_eq, ev_eql, ev_leq, ev_nm1, ev_nm5, ev_m1n, ev_neg1, ev_ltT, ev_ltF, ev_leT, ev_leF, ev_eqT, ev_eqF, ev_one0, ev_zero1, Nat.reduceAdd, Nat.reduceMul, Nat.reduceSub, ea_pI_eq, ev_pIn, ev_pIe, ea_pI_r, eq_self, fX5_mix_47]
  | succ d ih =>
    intro k m M hd h1 h2 hk hP
    obtain ⟨k, rfl⟩ : ∃ k', k = k' + 1 := ⟨k - 1, by omega⟩
    have hb := sp_tk_b ho (m := m) (f := f) (h := h) (c := c) (by omega) hf hc
    have hs : sp_tk v (f * 9 + m - 1) h c = m * v 2 (6 * f + c) * sp_str v f h / 9000 := by
      unfold sp_tk
      rw [if_pos (by omega), show (f * 9 + m - 1) / 9 = f by omega, show (f * 9 + m - 1) % 9 + 1 = m by omega]
    obtain ⟨M', r1, r2⟩ := ih k (m + 1) (ea_pI M (p + 1) ((f * 9 + m - 1) * 3 + c) (nI (m * v 2 (6 * f + c) * sp_str v f h / 9000))) (by omega) (by omega) (by omega) (by omega) (by
      refine ⟨fun row c' hc' hD => ?_, fun a j hj => ?_, hP.2.2⟩
      · by_cases e : row = f * 9 + m - 1 ∧ c' = c
        · obtain ⟨rfl, rfl⟩ := e
          rw [ea_pI_eq, hs]
        · rw [ea_pI_ne (by omega)]
          refine hP.1 row c' hc' ?_
          unfold pD at hD ⊢
          omega
      · rw [ea_pI_ne (by omega)]
        exact hP.2.1 a j hj)
    refine ⟨M', ?_, r2⟩
    simp (disch := omega) only [ev_ck, ev_ci, ev_cv, ev_lt_, ↓reduceIte, ev_lens, ev_ix, ev_nz, ev_cl, ev_cll, ev_add, ev_addl, ev_ladd, ev_mul, ev_mull, ev_lmul, ev_sub, ev_subl, ev_lsub, ev_lt, ev_ltl, ev_llt, ev_le, ev_lel, ev_lle, ev_eq, ev_eql, ev_leq, ev_nm1, ev_nm5, ev_m1n, ev_neg1, ev_ltT, ev_ltF, ev_leT, ev_leF, ev_eqT, ev_eqF, ev_one0, ev_zero1, Nat.reduceAdd, Nat.reduceMul, Nat.reduceSub, ea_pI_eq, ev_pIn, ev_pIe, ea_pI_r, eq_self, fX5_mix_47, fX9_rowOf, fX9_rowOf_0, lp, ev_divl]
    exact r1
theorem px_mix_29 (hp : p = 51 ∨ p = 61) (hcc : pn_c cc) (hX : pn_X M0 cc n v) (ho : pn_ok n v) {f : Nat} (hf : f < n 4) (k94 : Int32 → Nat → Int32 → eM → Option eM) :
    ∀ (d k c : Nat) (M : eM), 3 - c = d → c ≤ 3 → d < k → PX M0 M p v h (pD f c 1) → ∃ M', fX5_mix_29 k94 p k (nI h) cc (nI f) (nI (sp_str v f h)) (nI c) M = k94 (nI h) cc (nI f) M' ∧ PX M0 M' p v h (pD f 3 1) := by
  have h4 := ho.2.2.2.2.1
  intro d
  induction d with
  | zero =>
    intro k c M hd h2 hk hP
    obtain ⟨k, rfl⟩ : ∃ k', k = k' + 1 := ⟨k - 1, by omega⟩
    obtain rfl : c = 3 := by omega
    refine ⟨M, ?_, hP⟩
    simp (disch := omega) only [ev_ck, ev_ci, ev_cv, ev_lt_, ↓reduceIte, ev_lens, ev_ix, ev_nz, ev_cl, ev_cll, ev_add, ev_addl, ev_ladd, ev_mul, ev_mull, ev_lmul, ev_sub, ev_subl, ev_lsub, ev_lt, ev_ltl, ev_llt, ev_le, ev_lel, ev_lle, ev_eq, ev_eql, ev_leq, ev_nm1, ev_nm5, ev_m1n, ev_neg1, ev_ltT, ev_ltF, ev_leT, ev_leF, ev_eqT, ev_eqF, ev_one0, ev_zero1, Nat.reduceAdd, Nat.reduceMul, Nat.reduceSub, ea_pI_eq, ev_pIn, ev_pIe, ea_pI_r, eq_self, fX5_mix_29]
  | succ d ih =>
    intro k c M hd h2 hk hP
    obtain ⟨k, rfl⟩ : ∃ k', k = k' + 1 := ⟨k - 1, by omega⟩
    have hX1 := hX.fr (hP.C hp) hcc
    have g : M.1 (cc + 4) (f * 6 + c) = nI (v 2 (6 * f + c)) := by rw [Nat.mul_comm]; exact hX1.2.2.2.1 _ (by omega)
    obtain ⟨M1, r1, p1⟩ := px_mix_47 hp ho hf (show c < 3 by omega) (fX5_mix_88 (fX5_mix_29 k94 p k) p) 9 ea_N 1 M (by omega) (by omega) (by omega) (by unfold ea_N; omega) hP (q2 := cc)
    obtain ⟨M', r2, p2⟩ := ih k (c + 1) M1 (by omega) (by omega) (by omega) (p1.mono (fun row c' hc' hD => by unfold pD at hD ⊢; omega))
    refine ⟨M', ?_, p2⟩
    simp (disch := omega) only [ev_ck, ev_ci, ev_cv, ev_lt_, ↓reduceIte, ev_lens, ev_ix, ev_nz, ev_cl, ev_cll, ev_add, ev_addl, ev_ladd, ev_mul, ev_mull, ev_lmul, ev_sub, ev_subl, ev_lsub, ev_lt, ev_ltl, ev_llt, ev_le, ev_lel, ev_lle, ev_eq, ev_eql, ev_leq, ev_nm1, ev_nm5, ev_m1n, ev_neg1, ev_ltT, ev_ltF, ev_leT, ev_leF, ev_eqT, ev_eqF, ev_one0, ev_zero1, Nat.reduceAdd, Nat.reduceMul, Nat.reduceSub, ea_pI_eq, ev_pIn, ev_pIe, ea_pI_r, eq_self, fX5_mix_29, fX1_takesOf, fX1_takesOf_0, pn_l4 hcc, g]
    refine r1.trans ?_
    simp (disch := omega) only [ev_ck, ev_ci, ev_cv, ev_lt_, ↓reduceIte, ev_lens, ev_ix, ev_nz, ev_cl, ev_cll, ev_add, ev_addl, ev_ladd, ev_mul, ev_mull, ev_lmul, ev_sub, ev_subl, ev_lsub, ev_lt, ev_ltl, ev_llt, ev_le, ev_lel, ev_lle, ev_eq, ev_eql, ev_leq, ev_nm1, ev_nm5, ev_m1n, ev_neg1, ev_ltT, ev_ltF, ev_leT, ev_leF, ev_eqT, ev_eqF, ev_one0, ev_zero1, Nat.reduceAdd, Nat.reduceMul, Nat.reduceSub, ea_pI_eq, ev_pIn, ev_pIe, ea_pI_r, eq_self, fX5_mix_88]
    exact r2
theorem px_mix (hp : p = 51 ∨ p = 61) (hr : M0.2.2 4 0 = cc) (hcc : pn_c cc) (hX : pn_X M0 cc n v) (ho : pn_ok n v) (hh : h < 2 ^ 31) : ∃ M', fX5_mix p (nI h) M0 = some M' ∧ PX M0 M' p v h (fun row _ => row < 9 * n 4) := by
  have h4 := ho.2.2.2.2.1
  have lp : ∀ (d k f : Nat) (M : eM), n 4 - f = d → f ≤ n 4 → d < k → PX M0 M p v h (pD f 0 1) → ∃ M', fX5_mix_10 p k (nI h) cc (nI f) M = some M' ∧ PX M0 M' p v h (pD (n 4) 0 1) := by
    intro d
    induction d with
    | zero =>
      intro k f M hd h2 hk hP
      obtain ⟨k, rfl⟩ : ∃ k', k = k' + 1 := ⟨k - 1, by omega⟩
      obtain rfl : f = n 4 := by omega
      have hX1 := hX.fr (hP.C hp) hcc
      refine ⟨M, ?_, hP⟩
      simp (disch := omega) only [ev_ck, ev_ci, ev_cv, ev_lt_, ↓reduceIte, ev_lens, ev_ix, ev_nz, ev_cl, ev_cll, ev_add, ev_addl, ev_ladd, ev_mul, ev_mull, ev_lmul, ev_sub, ev_subl, ev_lsub, ev_lt, ev_ltl, ev_llt, ev_le, ev_lel, ev_lle, ev_eq, ev_eql, ev_leq, ev_nm1, ev_nm5, ev_m1n, ev_neg1, ev_ltT, ev_ltF, ev_leT, ev_leF, ev_eqT, ev_eqF, ev_one0, ev_zero1, Nat.reduceAdd, Nat.reduceMul, Nat.reduceSub, ea_pI_eq, ev_pIn, ev_pIe, ea_pI_r, eq_self, fX5_mix_10, hX1.1.2.2.2.2.1]
    | succ d ih =>
      intro k f M hd h2 hk hP
      obtain ⟨k, rfl⟩ : ∃ k', k = k' + 1 := ⟨k - 1, by omega⟩
      have hX1 := hX.fr (hP.C hp) hcc
      obtain ⟨M1, r1, p1⟩ := px_mix_29 hp hcc hX ho (show f < n 4 by omega) (fX5_mix_94 (fX5_mix_10 p k) p) 3 ea_N 0 M (by omega) (by omega) (by unfold ea_N; omega) hP
      obtain ⟨M', r2, p2⟩ := ih k (f + 1) M1 (by omega) (by omega) (by omega) (p1.mono (fun row c' hc' hD => by unfold pD at hD ⊢; omega))
      refine ⟨M', ?_, p2⟩
      simp (disch := omega) only [ev_ck, ev_ci, ev_cv, ev_lt_, ↓reduceIte, ev_lens, ev_ix, ev_nz, ev_cl, ev_cll, ev_add, ev_addl, ev_ladd, ev_mul, ev_mull, ev_lmul, ev_sub, ev_subl, ev_lsub, ev_lt, ev_ltl, ev_llt, ev_le, ev_lel, ev_lle, ev_eq, ev_eql, ev_leq, ev_nm1, ev_nm5, ev_m1n, ev_neg1, ev_ltT, ev_ltF, ev_leT, ev_leF, ev_eqT, ev_eqF, ev_one0, ev_zero1, Nat.reduceAdd, Nat.reduceMul, Nat.reduceSub, ea_pI_eq, ev_pIn, ev_pIe, ea_pI_r, eq_self, fX5_mix_10, hX1.1.2.2.2.2.1]
      rw [px_strength hcc hX1 ho (by omega) hh]
      simp (disch := omega) only [ev_ck, ev_ci, ev_cv, ev_lt_, ↓reduceIte, ev_lens, ev_ix, ev_nz, ev_cl, ev_cll, ev_add, ev_addl, ev_ladd, ev_mul, ev_mull, ev_lmul, ev_sub, ev_subl, ev_lsub, ev_lt, ev_ltl, ev_llt, ev_le, ev_lel, ev_lle, ev_eq, ev_eql, ev_leq, ev_nm1, ev_nm5, ev_m1n, ev_neg1, ev_ltT, ev_ltF, ev_leT, ev_leF, ev_eqT, ev_eqF, ev_one0, ev_zero1, Nat.reduceAdd, Nat.reduceMul, Nat.reduceSub, ea_pI_eq, ev_pIn, ev_pIe, ea_pI_r, eq_self]
      refine r1.trans ?_
      simp (disch := omega) only [ev_ck, ev_ci, ev_cv, ev_lt_, ↓reduceIte, ev_lens, ev_ix, ev_nz, ev_cl, ev_cll, ev_add, ev_addl, ev_ladd, ev_mul, ev_mull, ev_lmul, ev_sub, ev_subl, ev_lsub, ev_lt, ev_ltl, ev_llt, ev_le, ev_lel, ev_lle, ev_eq, ev_eql, ev_leq, ev_nm1, ev_nm5, ev_m1n, ev_neg1, ev_ltT, ev_ltF, ev_leT, ev_leF, ev_eqT, ev_eqF, ev_one0, ev_zero1, Nat.reduceAdd, Nat.reduceMul, Nat.reduceSub, ea_pI_eq, ev_pIn, ev_pIe, ea_pI_r, eq_self, fX5_mix_94]
      exact r2
  obtain ⟨M', r1, p1⟩ := lp (n 4) ea_N 0 M0 (by omega) (by omega) (by unfold ea_N; omega) ⟨fun row c hc hD => by unfold pD at hD; omega, fun _ _ _ => rfl, rfl⟩
  refine ⟨M', ?_, p1.mono (fun row c hc hD => Or.inl hD)⟩
  unfold fX5_mix fX5_mix_0
  rw [hr, ea_ck_t (pn_is hcc), ea_lt_t]
  exact r1
end MX
