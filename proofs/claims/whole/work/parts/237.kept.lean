theorem pn_sl {s : Nat} (h : s < 3) : pn_a (34 + 4 * s) := by
  rcases (show s = 0 ∨ s = 1 ∨ s = 2 by omega) with rfl | rfl | rfl
  · exact Or.inr (Or.inl rfl)
  · exact Or.inr (Or.inr (Or.inl rfl))
  · exact Or.inr (Or.inr (Or.inr rfl))
/-- a step that leaves the palettes alone -/
def ea_stZ (fx fm : eM → Option (Int32 × eM)) : Prop := ∀ M, Inv M → ∃ r M1 M2, fx M = some (r, M1) ∧ fm M1 = some (r, M2) ∧ Inv M2 ∧ ∀ c k, (c = 52 ∨ c = 62) → M2.1 c k = M.1 c k
theorem vp_nb1 : vp_nar .boolean (1 : Int32) = 1 := by decide +kernel
theorem st_keep0 (x : Int32) : ea_stZ (fX10_keep x) (fX11_keep x) := by
  intro M hM
  obtain ⟨c, n, v, th, o, w, len, q, l, t, r, h1, h2, h3, h4⟩ := id hM
  obtain ⟨hok, hLX, hLY, k1, k2, k3⟩ := id h3
  have gx : ∀ M, fX10_isWithin x 0 (nI (ea_len 46) - 1) M = some (pb x 0 (nI 3 - 1), M) := fun M => px_in ..
  have gy : ∀ M, fX11_isSlot x M = some (pb x 0 (nI 3 - 1), M) := fun M => by
    unfold fX11_isSlot fX11_isSlot_0
    exact (ea_ci_t (py_in x 0 (nI 3 - 1) M)).trans (ea_ck_t (pb_ok ..))
  unfold fX10_keep fX10_keep_0 fX11_keep fX11_keep_0
  rcases pb_01 x 0 (nI 3 - 1) with hb | hb
  · exact ⟨-2, M, M, by rw [gx, hb, ev_ci, if_pos rfl], by rw [gy, hb, ev_ci, if_pos rfl], hM, fun _ _ _ => rfl⟩
  obtain ⟨s, hs, rfl⟩ := pb_nat0 (by decide) hb
  obtain ⟨M1, r1, x1, f1, s7, g1⟩ := px_copy (pn_sl hs) (Or.inl rfl) (Or.inr (by omega)) hok hLX
  have e46 : ea_len 46 = 3 := rfl
  have X : ea_ci (fX10_isWithin (nI s) 0 (nI (ea_len 46) - 1) M) (fun r2 M3 => if r2 = 0 then (some ((-2 : Int32), M3)) else (ea_ck (ea_ix (nI s) (ea_len 46)) (ea_cv (fX8_copyFrom (34 + 4 * (nI s).toNatClampNeg) 30 M3) (fun M7 => ea_ck (ea_ix (nI s) (ea_len 46)) (some ((ea_pI M7 (34 + 4 * (nI s).toNatClampNeg) 7 (1 : Int32)).1 30 3, ea_pI M7 (34 + 4 * (nI s).toNatClampNeg) 7 (1 : Int32))))))) = some (nI (q 0), ea_pI M1 (34 + 4 * s) 7 1) := by
    rw [gx, hb]
    simp (disch := omega) only [ev_ck, ev_ci, ev_cv, ev_lt_, ↓reduceIte, ev_lens, ev_ix, ev_nz, ev_cl, ev_cll, ev_add, ev_addl, ev_ladd, ev_mul, ev_mull, ev_lmul, ev_sub, ev_subl, ev_lsub, ev_lt, ev_ltl, ev_llt, ev_le, ev_lel, ev_lle, ev_eq, ev_eql, ev_leq, ev_nm1, ev_nm5, ev_m1n, ev_neg1, ev_ltT, ev_ltF, ev_leT, ev_leF, ev_eqT, ev_eqF, ev_one0, ev_zero1, Nat.reduceAdd, Nat.reduceMul, Nat.reduceSub, ea_pI_eq, ev_pIn, ev_pIe, ea_pI_r, eq_self, e46, r1]
    rw [f1 30 3 (by omega), hLX.1.1]
  refine ⟨nI (q 0), ea_pI M1 (34 + 4 * s) 7 1, ?_⟩
  generalize hM2 : ea_pI M1 (34 + 4 * s) 7 1 = M2 at X
  have f2 : ∀ c k, ¬ (34 + 4 * s ≤ c ∧ c ≤ 34 + 4 * s + 3) → M2.1 c k = M.1 c k := fun c k h => by rw [← hM2, ea_pI_ne (by omega), f1 c k h]
  have g2 : M2.2.2 = M.2.2 := by rw [← hM2]; exact g1
  have x2 : pn_LX M2 (34 + 4 * s) q l t r := by
    obtain ⟨⟨e3, e4, e5, e6⟩, hl, ht, hr⟩ := x1
    rw [← hM2]
    refine ⟨⟨?_, ?_, ?_, ?_⟩, ?_, ?_, ?_⟩
    · rw [ea_pI_ne (by omega)]; exact e3
    · rw [ea_pI_ne (by omega)]; exact e4
    · rw [ea_pI_ne (by omega)]; exact e5
    · rw [ea_pI_ne (by omega)]; exact e6
    · intro i k hi hk
      rw [ea_pI_ne (by omega), ea_pI_ne (by omega)]; exact hl i k hi hk
    · intro i k hi hk
      rw [ea_pI_ne (by omega)]; exact ht i k hi hk
    · intro i hi
      refine ⟨?_, ?_, fun k hk => ?_⟩
      · rw [ea_pI_ne (by omega)]; exact (hr i hi).1
      · rw [ea_pI_ne (by omega)]; exact (hr i hi).2.1
      · rw [ea_pI_ne (by omega)]; exact (hr i hi).2.2 k hk
  have s72 : M2.1 (34 + 4 * s) 7 = 1 := by rw [← hM2]; exact ea_pI_eq
  obtain ⟨M3, r3, a3, b3, c3⟩ := py_keep fX11_keep_52 (M := ea_pI M2 115 s 1) hs
  have Y : ea_ci (fX11_isSlot (nI s) M2) (fun r2 M3 => if r2 = 0 then (some ((-2 : Int32), M3)) else (ea_ck (ea_ix (nI s) (ea_len 115)) (fX11_keep_19 (fX11_keep_52) ea_N (nI s) (0 : Int32) (ea_pI M3 115 ((nI s).toNatClampNeg) (vp_nar .boolean (1 : Int32)))))) = some (nI (q 0), M3) := by
    rw [gy, hb, ev_ci, if_neg (by decide), show ea_len 115 = 3 from rfl, ea_ck_t (pn_ix hs (by decide)), nI_clamp (by omega), vp_nb1, r3]
    unfold fX11_keep_52
    have := hLY.1 0 (by decide)
    rw [show (0 : Int32).toNatClampNeg = 0 from rfl, b3 114 0 (by omega), ea_pI_ne (by omega), f2 _ _ (by omega)]
    rw [this]
  have o3 : ∀ c k, c ≠ 114 → (c ≠ 115 ∨ k ≠ s) → M3.1 c k = M2.1 c k := fun c k ha hb => by rw [b3 c k (Or.inl ha), ea_pI_ne hb]
  have oo : ∀ c k, ¬ (34 + 4 * s ≤ c ∧ c ≤ 34 + 4 * s + 3) → c ≠ 114 → (c ≠ 115 ∨ k ≠ s) → M3.1 c k = M.1 c k := fun c k h1 h2 h3 => by rw [o3 c k h2 h3, f2 c k h1]
  have o4 : ∀ k, k < 854 * (s + 1) ∨ 854 * (s + 1) + 854 ≤ k → M3.1 114 k = M.1 114 k := fun k h => by rw [b3 114 k (Or.inr h), ea_pI_ne (by omega), f2 _ _ (by omega)]
  refine ⟨M3, X, Y, ?_, fun c k hc => oo c k (by omega) (by omega) (by omega)⟩
  refine ⟨c, n, v, th, o, w, len, q, l, t, r, h1.fr ⟨fun c k hk => ?_, c3.trans g2⟩, h2.fr ?_ ?_ ?_ ?_ ?_ ?_ ?_ ?_, ⟨hok, hLX.fr (fun d k hd => oo _ _ (by omega) (by omega) (by omega)), hLY.fr hok (fun k h1 h2 => o4 k (by omega)), k1, k2, k3⟩, fun j hj => ?_⟩
  · have := isKC_in hk
    exact oo c k (by omega) (by omega) (by omega)
  · exact fun k => oo _ _ (by omega) (by decide) (by omega)
  · exact fun k => oo _ _ (by omega) (by decide) (by omega)
  · exact oo _ _ (by omega) (by decide) (by omega)
  · exact oo _ _ (by omega) (by decide) (by omega)
  · exact oo _ _ (by omega) (by decide) (by omega)
  · exact oo _ _ (by omega) (by decide) (by omega)
  · exact oo _ _ (by omega) (by decide) (by omega)
  · exact oo _ _ (by omega) (by decide) (by omega)
  · by_cases hjs : j = s
    · subst hjs
      refine Or.inr ⟨?_, ?_, q, l, t, r, hok, x2.fr (fun d k hd => o3 _ _ (by omega) (by omega)), hLY.mv hok (fun k hk => ?_), k1, k2, k3⟩
      · rw [o3 _ _ (by omega) (by omega)]; exact s72
      · rw [b3 _ _ (by omega)]; exact ea_pI_eq
      · rw [a3 k hk, ea_pI_ne (by omega), f2 _ _ (by omega), Nat.zero_add]
    · refine (h4 j hj).fr ?_ ?_ ?_
      · exact fun d k hd => oo _ _ (by omega) (by omega) (by omega)
      · exact oo _ _ (by omega) (by omega) (by omega)
      · exact fun k ha hb => o4 k (by omega)
theorem st_take0 (x : Int32) : ea_stZ (fX10_take x) (fX11_take x) := by
  intro M hM
  obtain ⟨c, n, v, th, o, w, len, q, l, t, r, h1, h2, h3, h4⟩ := id hM
  have gx : ∀ M, fX10_isWithin x 0 (nI (ea_len 46) - 1) M = some (pb x 0 (nI 3 - 1), M) := fun M => px_in ..
  have gy : ∀ M, fX11_isSlot x M = some (pb x 0 (nI 3 - 1), M) := fun M => by
    unfold fX11_isSlot fX11_isSlot_0
    exact (ea_ci_t (py_in x 0 (nI 3 - 1) M)).trans (ea_ck_t (pb_ok ..))
  unfold fX10_take fX10_take_0 fX11_take fX11_take_0
  rcases pb_01 x 0 (nI 3 - 1) with hb | hb
  · exact ⟨-2, M, M, by rw [gx, hb, ev_ci, if_pos rfl], by rw [gy, hb, ev_ci, if_pos rfl], hM, fun _ _ _ => rfl⟩
  obtain ⟨s, hs, rfl⟩ := pb_nat0 (by decide) hb
  have e46 : ea_len 46 = 3 := rfl
  rcases id (h4 s hs) with ⟨z1, z2⟩ | ⟨z1, z2, q', l', t', r', hok, hLX, hLY, k1, k2, k3⟩
  · refine ⟨-4, M, M, ?_, ?_, hM, fun _ _ _ => rfl⟩
    · rw [gx, hb]
      simp (disch := omega) only [ev_ck, ev_ci, ev_cv, ev_lt_, ↓reduceIte, ev_lens, ev_ix, ev_nz, ev_cl, ev_cll, ev_add, ev_addl, ev_ladd, ev_mul, ev_mull, ev_lmul, ev_sub, ev_subl, ev_lsub, ev_lt, ev_ltl, ev_llt, ev_le, ev_lel, ev_lle, ev_eq, ev_eql, ev_leq, ev_nm1, ev_nm5, ev_m1n, ev_neg1, ev_ltT, ev_ltF, ev_leT, ev_leF, ev_eqT, ev_eqF, ev_one0, ev_zero1, Nat.reduceAdd, Nat.reduceMul, Nat.reduceSub, ea_pI_eq, ev_pIn, ev_pIe, ea_pI_r, eq_self, e46, z1]
    · rw [gy, hb]
      simp (disch := omega) only [ev_ck, ev_ci, ev_cv, ev_lt_, ↓reduceIte, ev_lens, ev_ix, ev_nz, ev_cl, ev_cll, ev_add, ev_addl, ev_ladd, ev_mul, ev_mull, ev_lmul, ev_sub, ev_subl, ev_lsub, ev_lt, ev_ltl, ev_llt, ev_le, ev_lel, ev_lle, ev_eq, ev_eql, ev_leq, ev_nm1, ev_nm5, ev_m1n, ev_neg1, ev_ltT, ev_ltF, ev_leT, ev_leF, ev_eqT, ev_eqF, ev_one0, ev_zero1, Nat.reduceAdd, Nat.reduceMul, Nat.reduceSub, ea_pI_eq, ev_pIn, ev_pIe, ea_pI_r, eq_self, z2]
  obtain ⟨M1, r1, x1, f1, s7, g1⟩ := px_copy (Or.inl rfl) (pn_sl hs) (Or.inl (by omega)) hok hLX
  have X : ea_ci (fX10_isWithin (nI s) 0 (nI (ea_len 46) - 1) M) (fun r2 M3 => if r2 = 0 then (some ((-2 : Int32), M3)) else (ea_ck (ea_ix (nI s) (ea_len 46)) (if (M3.1 (34 + 4 * (nI s).toNatClampNeg) 7) = 0 then (some ((-4 : Int32), M3)) else (ea_ck (ea_ix (nI s) (ea_len 46)) (ea_cv (fX8_copyFrom 30 (34 + 4 * (nI s).toNatClampNeg) M3) (fun M9 => some (M9.1 30 3, M9))))))) = some (nI (q' 0), M1) := by
    rw [gx, hb]
    simp (disch := omega) only [ev_ck, ev_ci, ev_cv, ev_lt_, ↓reduceIte, ev_lens, ev_ix, ev_nz, ev_cl, ev_cll, ev_add, ev_addl, ev_ladd, ev_mul, ev_mull, ev_lmul, ev_sub, ev_subl, ev_lsub, ev_lt, ev_ltl, ev_llt, ev_le, ev_lel, ev_lle, ev_eq, ev_eql, ev_leq, ev_nm1, ev_nm5, ev_m1n, ev_neg1, ev_ltT, ev_ltF, ev_leT, ev_leF, ev_eqT, ev_eqF, ev_one0, ev_zero1, Nat.reduceAdd, Nat.reduceMul, Nat.reduceSub, ea_pI_eq, ev_pIn, ev_pIe, ea_pI_r, eq_self, e46, z1, r1]
    rw [x1.1.1]
  obtain ⟨M3, r3, a3, b3, c3⟩ := py_take fX11_take_57 (M := M1) hs
  have hz : M1.1 115 s = 1 := by rw [f1 _ _ (by omega)]; exact z2
  have Y : ea_ci (fX11_isSlot (nI s) M1) (fun r2 M3 => if r2 = 0 then (some ((-2 : Int32), M3)) else (ea_ck (ea_ix (nI s) (ea_len 115)) (if (M3.1 115 (nI s).toNatClampNeg) = 0 then (some ((-4 : Int32), M3)) else (fX11_take_24 (fX11_take_57) ea_N (nI s) (0 : Int32) M3)))) = some (nI (q' 0), M3) := by
    rw [gy, hb]
    simp (disch := omega) only [ev_ck, ev_ci, ev_cv, ev_lt_, ↓reduceIte, ev_lens, ev_ix, ev_nz, ev_cl, ev_cll, ev_add, ev_addl, ev_ladd, ev_mul, ev_mull, ev_lmul, ev_sub, ev_subl, ev_lsub, ev_lt, ev_ltl, ev_llt, ev_le, ev_lel, ev_lle, ev_eq, ev_eql, ev_leq, ev_nm1, ev_nm5, ev_m1n, ev_neg1, ev_ltT, ev_ltF, ev_leT, ev_leF, ev_eqT, ev_eqF, ev_one0, ev_zero1, Nat.reduceAdd, Nat.reduceMul, Nat.reduceSub, ea_pI_eq, ev_pIn, ev_pIe, ea_pI_r, eq_self, hz]
    rw [r3]
    unfold fX11_take_57
    have := hLY.1 0 (by decide)
    rw [show (0 : Int32).toNatClampNeg = 0 from rfl, a3 0 (by omega), f1 _ _ (by omega)]
    rw [this]
  have oo : ∀ c k, ¬ (30 ≤ c ∧ c ≤ 33) → c ≠ 114 ∨ 854 ≤ k → M3.1 c k = M.1 c k := fun c k h1 h2 => by rw [b3 c k h2, f1 c k (by omega)]
  refine ⟨nI (q' 0), M1, M3, X, Y, Inv_tell (M := M) ⟨fun c k h1 h2 => oo c k h1 (by omega), c3.trans g1⟩ h1 h2 h4 (n := n) ⟨hok, x1.fr (fun d k hd => b3 _ _ (by omega)), hLY.mv hok (fun k hk => ?_), k1, k2, k3⟩, fun c k hc => oo c k (by omega) (by omega)⟩
  rw [Nat.zero_add, a3 k hk, f1 _ _ (by omega)]
