section BG
variable {B : Nat → Nat} {len cc : Nat}
theorem pR_eq {M : eM} {c k v : Nat} : (ea_pR M c k v).2.2 c k = v := by
  rw [ea_pR_s]
  exact if_pos rfl
theorem pR_ne {M : eM} {c k v a j : Nat} (h : a ≠ c ∨ j ≠ k) : (ea_pR M c k v).2.2 a j = M.2.2 a j := by
  show (if a = c then (fun j => if j = k then v else M.2.2 c j) else M.2.2 a) j = M.2.2 a j
  by_cases e : a = c
  · rw [if_pos e, e]
    show (if j = k then v else M.2.2 c j) = M.2.2 c j
    rw [if_neg (by omega)]
  · rw [if_neg e]
theorem px_brf (hc : pn_c cc) (M : eM) : fJ7_fill_53178 (cc + 1) 100 M = some (ea_pI (ea_pI (ea_pI M (cc + 1) 0 100) (cc + 1) 1 100) (cc + 1) 2 100) := by
  have st : ∀ (n i : Nat) (M : eM), i < 3 → fJ7_fill_53178_5 (cc + 1) (n + 1) 100 (nI i) (nI 3) M = fJ7_fill_53178_5 (cc + 1) n 100 (nI (i + 1)) (nI 3) (ea_pI M (cc + 1) i 100) := by
    intro n i M hi
    rw [fJ7_fill_53178_5, if_neg (by rw [pn_leI (by omega) (by omega)]; omega), pn_l1 hc, ev_ix (by omega) (by omega), ev_ck, ev_cl (by omega), show nI i + 1 = nI (i + 1) from nI_add i 1]
  unfold fJ7_fill_53178 fJ7_fill_53178_0
  rw [pn_l1 hc]
  show fJ7_fill_53178_5 (cc + 1) (99996 + 1 + 1 + 1 + 1) 100 (nI 0) (nI 3) M = _
  rw [st _ 0 _ (by omega), st _ (0 + 1) _ (by omega), st _ (0 + 1 + 1) _ (by omega), fJ7_fill_53178_5]
  exact if_pos (by decide)
theorem px_begin (hc : pn_c cc) (M : eM) : ∃ M', fX2_begin cc M = some M' ∧ (M'.1 3 4 = 0 ∧ M'.1 3 5 = 0 ∧ M'.1 3 0 = 0 ∧ M'.1 3 1 = -1) ∧ (M'.1 cc 0 = 4 ∧ M'.1 cc 1 = 3 ∧ M'.1 cc 2 = 0 ∧ M'.1 cc 3 = 2 ∧ M'.1 cc 4 = 0 ∧ M'.1 cc 6 = 0 ∧ M'.1 cc 8 = 0 ∧ M'.1 cc 11 = 0 ∧ M'.1 cc 15 = 0) ∧ (∀ k, k < 3 → M'.1 (cc + 1) k = 100) ∧ (∀ c k, c ≠ 3 → (c < cc ∨ cc + 9 < c) → M'.1 c k = M.1 c k) ∧ M'.2.2 3 3 = cc ∧ (∀ a j, (a ≠ 3 ∨ j ≠ 3) → M'.2.2 a j = M.2.2 a j) := by
  have hcc : cc = 10 ∨ cc = 20 := hc
  obtain ⟨M', e, hM⟩ : ∃ M', fX2_begin cc M = some M' ∧ M' = ea_pI (ea_pI (ea_pI (ea_pI (ea_pI (ea_pI (ea_pI (ea_pI (ea_pI (ea_pI (ea_pI (ea_pI (ea_pI (ea_pI (ea_pI (ea_pI (ea_pR M 3 3 cc) cc 0 4) cc 1 3) cc 2 0) cc 3 2) cc 4 0) (cc + 1) 0 100) (cc + 1) 1 100) (cc + 1) 2 100) cc 6 0) cc 8 0) cc 11 0) cc 15 0) 3 4 0) 3 5 0) 3 0 0) 3 1 (-1) := by
    refine ⟨_, ?_, rfl⟩
    unfold fX2_begin fX2_begin_0 fX1_clear fX1_clear_0
    rw [show (ea_pR M 3 3 cc).2.2 3 3 = cc from pR_eq, pn_is hc, ev_ck, px_brf hc, ev_cv, ev_cv]
  refine ⟨M', e, ?_⟩
  subst hM
  refine ⟨⟨?_, ?_, ?_, ?_⟩, ⟨?_, ?_, ?_, ?_, ?_, ?_, ?_, ?_, ?_⟩, ?_, ?_, pR_eq, fun a j h => pR_ne h⟩
  all_goals first
    | (simp (disch := omega) only [ev_ck, ev_ci, ev_cv, ev_lt_, ↓reduceIte, ev_lens, ev_ix, ev_nz, ev_cl, ev_cll, ev_add, ev_addl, ev_ladd, ev_mul, ev_mull, ev_lmul, ev_sub, ev_subl, ev_lsub, ev_lt, ev_ltl, ev_llt, ev_le, ev_lel, ev_lle, ev_eq, ev_eql, ev_leq, ev_nm1, ev_nm5, ev_m1n, ev_neg1, ev_ltT, ev_ltF, ev_leT, ev_leF, ev_eqT, ev_eqF, ev_one0, ev_zero1, Nat.reduceAdd, Nat.reduceMul, Nat.reduceSub, ea_pI_eq, ev_pIn, ev_pIe, ea_pI_r, eq_self]; done)
    | skip
  · intro k hk
    rcases (show k = 0 ∨ k = 1 ∨ k = 2 by omega) with q | q | q <;> subst q <;> simp (disch := omega) only [ev_ck, ev_ci, ev_cv, ev_lt_, ↓reduceIte, ev_lens, ev_ix, ev_nz, ev_cl, ev_cll, ev_add, ev_addl, ev_ladd, ev_mul, ev_mull, ev_lmul, ev_sub, ev_subl, ev_lsub, ev_lt, ev_ltl, ev_llt, ev_le, ev_lel, ev_lle, ev_eq, ev_eql, ev_leq, ev_nm1, ev_nm5, ev_m1n, ev_neg1, ev_ltT, ev_ltF, ev_leT, ev_leF, ev_eqT, ev_eqF, ev_one0, ev_zero1, Nat.reduceAdd, Nat.reduceMul, Nat.reduceSub, ea_pI_eq, ev_pIn, ev_pIe, ea_pI_r, eq_self]
  · intro c k h1 h2
    simp (disch := omega) only [ev_ck, ev_ci, ev_cv, ev_lt_, ↓reduceIte, ev_lens, ev_ix, ev_nz, ev_cl, ev_cll, ev_add, ev_addl, ev_ladd, ev_mul, ev_mull, ev_lmul, ev_sub, ev_subl, ev_lsub, ev_lt, ev_ltl, ev_llt, ev_le, ev_lel, ev_lle, ev_eq, ev_eql, ev_leq, ev_nm1, ev_nm5, ev_m1n, ev_neg1, ev_ltT, ev_ltF, ev_leT, ev_leF, ev_eqT, ev_eqF, ev_one0, ev_zero1, Nat.reduceAdd, Nat.reduceMul, Nat.reduceSub, ea_pI_eq, ev_pIn, ev_pIe, ea_pI_r, eq_self]
    rfl
theorem py_b2 (k24 : eM → Option eM) : ∀ (d f i : Nat) (M : eM), 14 - i = d → i ≤ 14 → d < f → ∃ M', fX11_begin_2 k24 f (nI i) M = k24 M' ∧ (∀ k, 14 + i ≤ k → k < 28 → M'.1 102 k = 0) ∧ (∀ c k, (c ≠ 102 ∨ k < 14 + i ∨ 28 ≤ k) → M'.1 c k = M.1 c k) ∧ M'.2 = M.2 := by
  intro d
  induction d with
  | zero =>
    intro f i M hd hi hf
    obtain ⟨f, rfl⟩ : ∃ f', f = f' + 1 := ⟨f - 1, by omega⟩
    refine ⟨M, ?_, fun k h1 h2 => by omega, fun _ _ _ => rfl, rfl⟩
    rw [fX11_begin_2, if_pos (by rw [show (14 : Int32) = nI 14 from rfl, pn_leI (by omega) (by omega)]; omega)]
  | succ d ih =>
    intro f i M hd hi hf
    obtain ⟨f, rfl⟩ : ∃ f', f = f' + 1 := ⟨f - 1, by omega⟩
    obtain ⟨M', r1, r2, r3, r4⟩ := ih f (i + 1) (ea_pI M 102 (14 + i) 0) (by omega) (by omega) (by omega)
    refine ⟨M', ?_, fun k h1 h2 => ?_, fun c k h => ?_, r4⟩
    · rw [fX11_begin_2, if_neg (by rw [show (14 : Int32) = nI 14 from rfl, pn_leI (by omega) (by omega)]; omega), ev_ladd, show ea_len 102 = 28 from rfl, ev_ix (by omega) (by omega), ev_ck, ev_cl (by omega), show nI i + 1 = nI (i + 1) from nI_add i 1]
      exact r1
    · by_cases e : k = 14 + i
      · rw [r3 _ _ (by omega), e, ea_pI_eq]
      · exact r2 k (by omega) h2
    · rw [r3 _ _ (by omega), ea_pI_ne (by omega)]
theorem py_b50 (k72 : eM → Option eM) : ∀ (d f i : Nat) (M : eM), 3 - i = d → i ≤ 3 → d < f → ∃ M', fX11_begin_50 k72 f (nI i) M = k72 M' ∧ (∀ k, i ≤ k → k < 3 → M'.1 102 (22 + k) = 100) ∧ (∀ c k, (c ≠ 102 ∨ k < 22 + i ∨ 25 ≤ k) → M'.1 c k = M.1 c k) ∧ M'.2 = M.2 := by
  intro d
  induction d with
  | zero =>
    intro f i M hd hi hf
    obtain ⟨f, rfl⟩ : ∃ f', f = f' + 1 := ⟨f - 1, by omega⟩
    refine ⟨M, ?_, fun k h1 h2 => by omega, fun _ _ _ => rfl, rfl⟩
    rw [fX11_begin_50, if_pos (by rw [show (3 : Int32) = nI 3 from rfl, pn_leI (by omega) (by omega)]; omega)]
  | succ d ih =>
    intro f i M hd hi hf
    obtain ⟨f, rfl⟩ : ∃ f', f = f' + 1 := ⟨f - 1, by omega⟩
    obtain ⟨M', r1, r2, r3, r4⟩ := ih f (i + 1) (ea_pI M 102 (22 + i) 100) (by omega) (by omega) (by omega)
    refine ⟨M', ?_, fun k h1 h2 => ?_, fun c k h => ?_, r4⟩
    · rw [fX11_begin_50, if_neg (by rw [show (3 : Int32) = nI 3 from rfl, pn_leI (by omega) (by omega)]; omega), ev_ladd, show ea_len 102 = 28 from rfl, ev_ix (by omega) (by omega), ev_ck, ev_cl (by omega), show nI i + 1 = nI (i + 1) from nI_add i 1]
      exact r1
    · by_cases e : k = i
      · rw [r3 _ _ (by omega), e, ea_pI_eq]
      · exact r2 k (by omega) h2
    · rw [r3 _ _ (by omega), ea_pI_ne (by omega)]
theorem py_begin (M : eM) : ∃ M', fX11_begin M = some M' ∧ (M'.1 102 14 = 4 ∧ M'.1 102 15 = 3 ∧ M'.1 102 16 = 0 ∧ M'.1 102 17 = 2) ∧ (∀ k, 18 ≤ k → k < 22 → M'.1 102 k = 0) ∧ (∀ k, k < 3 → M'.1 102 (22 + k) = 100) ∧ M'.1 100 21 = 0 ∧ (∀ c k, (c ≠ 102 ∨ k < 14) → (c ≠ 100 ∨ k ≠ 21) → M'.1 c k = M.1 c k) ∧ M'.2 = M.2 := by
  obtain ⟨M1, a1, a2, a3, a4⟩ := py_b2 fX11_begin_24 14 ea_N 0 M rfl (by omega) (by unfold ea_N; omega)
  obtain ⟨M2, c1, c2, c3, c4⟩ := py_b50 fX11_begin_72 3 ea_N 0 (ea_pI (ea_pI (ea_pI M1 102 14 4) 102 15 3) 102 17 2) rfl (by omega) (by unfold ea_N; omega)
  refine ⟨ea_pI M2 100 21 0, ?_, ⟨?_, ?_, ?_, ?_⟩, fun k h1 h2 => ?_, fun k hk => ?_, ea_pI_eq, fun c k h1 h2 => ?_, ?_⟩
  · unfold fX11_begin fX11_begin_0
    show fX11_begin_2 fX11_begin_24 ea_N (nI 0) M = _
    rw [a1]
    unfold fX11_begin_24
    rw [ev_cll (k := 14) (by decide), ev_cll (k := 15) (by decide), ev_cll (k := 17) (by decide)]
    show fX11_begin_50 fX11_begin_72 ea_N (nI 0) _ = _
    rw [c1]
    rfl
  · rw [ea_pI_ne (by omega), c3 _ _ (by omega), ea_pI_ne (by omega), ea_pI_ne (by omega), ea_pI_eq]
  · rw [ea_pI_ne (by omega), c3 _ _ (by omega), ea_pI_ne (by omega), ea_pI_eq]
  · rw [ea_pI_ne (by omega), c3 _ _ (by omega), ea_pI_ne (by omega), ea_pI_ne (by omega), ea_pI_ne (by omega)]
    exact a2 16 (by omega) (by omega)
  · rw [ea_pI_ne (by omega), c3 _ _ (by omega), ea_pI_eq]
  · rw [ea_pI_ne (by omega), c3 _ _ (by omega), ea_pI_ne (by omega), ea_pI_ne (by omega), ea_pI_ne (by omega)]
    exact a2 k (by omega) (by omega)
  · rw [ea_pI_ne (by omega)]
    exact c2 k (by omega) hk
  · rw [ea_pI_ne (by omega), c3 _ _ (by omega), ea_pI_ne (by omega), ea_pI_ne (by omega), ea_pI_ne (by omega)]
    exact a3 _ _ (by omega)
  · show M2.2 = M.2
    rw [c4]
    show M1.2 = M.2
    exact a4
theorem TY.c7 {M M' : eM} {p : Nat} (h : TY M B len p) (e : ∀ k, 3 ≤ k → k ≤ 7 → M'.1 100 k = M.1 100 k) (e2 : M'.2.1 100 10 = M.2.1 100 10) : TY M' B len p := by
  unfold TY at h ⊢
  rw [e 6 (by omega) (by omega), e 5 (by omega) (by omega), e 3 (by omega) (by omega), e 7 (by omega) (by omega), e 4 (by omega) (by omega), e2]
  exact h
theorem jStart (hc : pn_c cc) {MX MY : eM} (hBX : BY MX B len) (h11 : MX.1 1 1 = nI len) (hBY : BY MY B len) (h1 : MY.1 100 1 = nI len) (r0 : MX.2.2 0 3 = cc) : ∃ MX1 MY1, fX10_cloth MX = fX10_cloth_13 fX10_cloth_64 ea_N 1 MX1 ∧ fX11_cloth MY = fX11_cloth_38 fX11_cloth_63 fX11_cloth_81 ea_N (nI 0) MY1 ∧ Sy MX1 MY1 B len 0 ∧ DR MX1 MY1 cc B ∧ MX1.2.2 3 3 = cc ∧ MX1.2.2 0 3 = cc ∧ MX1.2.2 4 0 = MX.2.2 4 0 ∧ MX1.1 cc 4 = nI 0 ∧ (MX1.1 3 0 = 0 ∧ MX1.1 3 1 = -1 ∧ MY1.1 100 8 = 0 ∧ MY1.1 100 9 = -1 ∧ MY1.1 100 1 = 0) ∧ (∀ c k, c ≠ 3 → (c < cc ∨ cc + 9 < c) → MX1.1 c k = MX.1 c k) ∧ (∀ c k, ¬ rgW c k → (c ≠ 100 ∨ (k ≠ 1 ∧ k ≠ 2)) → MY1.1 c k = MY.1 c k) ∧ MY1.2.2 = MY.2.2 := by
  have hcc : cc = 10 ∨ cc = 20 := hc
  have hl := hBX.1
  obtain ⟨MX1, x1, ⟨x34, x35, x30, x31⟩, ⟨y0, y1, y2, y3, y4, y6, y8, y11, y15⟩, yr, xf, xr, xo⟩ := px_begin hc MX
  have w : ∀ c k, (c ≠ 100 ∨ (k ≠ 1 ∧ k ≠ 2 ∧ k ≠ 6)) → (ea_pI (ea_pI (ea_pI MY 100 2 (MY.1 100 1)) 100 1 0) 100 6 0).1 c k = MY.1 c k := fun c k h => by rw [ea_pI_ne (by omega), ea_pI_ne (by omega), ea_pI_ne (by omega)]
  obtain ⟨M2, s1, s2, s3⟩ := py_scan (M := ea_pI (ea_pI (ea_pI MY 100 2 (MY.1 100 1)) 100 1 0) 100 6 0) (B := B) (len := len) (p := 0) (hBY.cg (fun k => w _ _ (by omega)) (fun k => w _ _ (by omega))) (by rw [ea_pI_ne (by omega), ea_pI_ne (by omega), ea_pI_eq]; exact h1) (Nat.zero_le _) ea_pI_eq
  obtain ⟨M4, g1, ⟨g14, g15, g16, g17⟩, g18, g22, g21, gf, gl⟩ := py_begin (ea_pI (ea_pI M2 100 8 0) 100 9 (-1))
  have m : ∀ c k, (c ≠ 102 ∨ k < 14) → (c ≠ 100 ∨ (k ≠ 21 ∧ k ≠ 8 ∧ k ≠ 9)) → M4.1 c k = M2.1 c k := fun c k h1 h2 => by rw [gf _ _ (by omega) (by omega), ea_pI_ne (by omega), ea_pI_ne (by omega)]
  have m2 : ∀ c k, (c ≠ 102 ∨ k < 14) → (c ≠ 100 ∨ k = 1 ∨ k = 2 ∨ 11 < k) → (c ≠ 100 ∨ k ≠ 21) → M4.1 c k = (ea_pI (ea_pI (ea_pI MY 100 2 (MY.1 100 1)) 100 1 0) 100 6 0).1 c k := fun c k h1 h2 h3 => by rw [m _ _ (by omega) (by omega), s3.1 _ _ (by omega)]
  have m3 : ∀ c k, (c ≠ 102 ∨ k < 14) → (c ≠ 100 ∨ 11 < k) → (c ≠ 100 ∨ k ≠ 21) → M4.1 c k = MY.1 c k := fun c k h1 h2 h3 => by rw [m2 _ _ h1 (by omega) h3, w _ _ (by omega)]
  refine ⟨MX1, M4, ?_, ?_, ⟨Nat.zero_le _, ⟨hBX.cg (fun k => xf _ _ (by omega) (by omega)) (fun k => xf _ _ (by omega) (by omega)), by rw [xf _ _ (by omega) (by omega)]; exact h11⟩, x34, ⟨hBY.cg (fun k => m3 _ _ (by omega) (by omega) (by omega)) (fun k => m3 _ _ (by omega) (by omega) (by omega)), ?_⟩, ?_⟩, ?_, xr, by rw [xo _ _ (by omega)]; exact r0, xo _ _ (by omega), y4, ⟨x30, x31, ?_, ?_, ?_⟩, xf, fun c k h1 h2 => ?_, ?_⟩
  · unfold fX10_cloth fX10_cloth_0
    rw [r0, pn_is hc, ev_ck, x1, ev_cv]
  · unfold fX11_cloth fX11_cloth_0
    rw [s1, ev_cv, g1, ev_cv]
    rfl
  · rw [m2 _ _ (by omega) (by omega) (by omega), ea_pI_ne (by omega), ea_pI_ne (by omega), ea_pI_eq]
    exact h1
  · refine s2.c7 (fun k h1 h2 => m _ _ (by omega) (by omega)) ?_
    rw [gl]
    rfl
  · refine ⟨⟨⟨4, by omega, by omega, y0, g14⟩, ⟨3, by omega, by omega, y1, g15⟩, ⟨0, by omega, by omega, y2, g16⟩, ⟨2, by omega, by omega, y3, g17⟩⟩, fun k hk => ⟨100, by omega, by omega, yr k hk, g22 k hk⟩, ⟨0, by omega, y6, g18 21 (by omega) (by omega), fun k hk => by omega, fun k hk => by omega⟩, ⟨0, by omega, y8, g18 18 (by omega) (by omega), fun i hi => by omega, fun f i hf => by omega⟩, ⟨0, by omega, y11, g18 19 (by omega) (by omega), fun i hi => by omega, fun s hs => by omega⟩, ⟨0, by omega, y15, g18 20 (by omega) (by omega), fun i hi => by omega, fun k hk => by omega⟩, ⟨0, by omega, x35, g21⟩⟩
  · rw [gf _ _ (by omega) (by omega), ea_pI_ne (by omega), ea_pI_eq]
  · rw [gf _ _ (by omega) (by omega), ea_pI_eq]
  · rw [m2 _ _ (by omega) (by omega) (by omega), ea_pI_ne (by omega), ea_pI_eq]
  · unfold rgW at h1
    by_cases e0 : c = 100 ∧ k = 0
    · rw [e0.1, e0.2, m _ _ (by omega) (by omega), s3.1 _ _ (by omega), w _ _ (by omega)]
    · exact m3 _ _ (by omega) (by omega) (by omega)
  · rw [gl]
    show M2.2.2 = MY.2.2
    rw [s3.2.2]
    rfl
end BG
