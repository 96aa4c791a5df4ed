theorem rt_ok {q : Nat → Nat} {l t r : Nat → Nat → Nat} (hok : pn_Lok q l t r) (hq : q 2 < 20) {step of : Nat} {A : Nat → Nat} (hs : step ≤ 999) (hc : of < 20) (hA : ∀ k, k < 3 → A k ≤ 99) : pn_Lok (ad_q q 2 step) l t (ad_l r (q 2) [step, of, A 0, A 1, A 2]) := by
  obtain ⟨o1, o2, o3, o4, o5, o6, o7⟩ := hok
  have a0 := hA 0 (by decide)
  have a1 := hA 1 (by decide)
  have a2 := hA 2 (by decide)
  refine ⟨o1, o2, show q 2 + 1 ≤ 20 by omega, hs, o5, o6, ?_⟩
  intro i hi
  have hi : i < q 2 + 1 := hi
  by_cases hiq : i = q 2
  · subst hiq
    have er : ∀ k, ad_l r (q 2) [step, of, A 0, A 1, A 2] (q 2) k = [step, of, A 0, A 1, A 2].getD k 0 := fun k => if_pos rfl
    simp only [er]
    refine ⟨hs, hc, fun k hk => ?_⟩
    rcases (show k = 0 ∨ k = 1 ∨ k = 2 by omega) with rfl | rfl | rfl
    · exact a0
    · exact a1
    · exact a2
  · have er : ∀ k, ad_l r (q 2) [step, of, A 0, A 1, A 2] i k = r i k := fun k => if_neg hiq
    simp only [er]
    exact o7 i (by omega)
theorem st_right (a b x y z : Int32) : ea_st Inv (fX10_right a b x y z) (fX11_right a b x y z) := by
  intro M hM
  obtain ⟨c, n, v, th, o, w, len, q, l, t, r, h1, h2, h3, h4⟩ := id hM
  obtain ⟨hok, hLX, hLY, k1, k2, k3⟩ := id h3
  have hq3 := hok.2.2.2.1
  have hq1 := hok.2.1
  have hq2 := hok.2.2.1
  have X : fX10_right a b x y z M = (if pb a (nI (q 3)) (nI 1000 - 1) = 0 then some (-2, M) else if pb b 0 (nI (q 1) - 1) = 0 then some (-2, M) else if pb3 x y z = 0 then some (-2, M) else if nI (q 2) < (20 : Int32) then ea_cv (fX8_addRight 30 a b x y z M) (fun M15 => ea_ci (fX8_rightsOf 30 b M15) (fun r17 M18 => some (r17, M18))) else some (-3, M)) := by
    unfold fX10_right fX10_right_0
    rw [ea_ci_t (gx_tell hLX a), ea_ci_t (px_in ..), ea_ci_t (px_cols x y z M), hLX.1.2.1, hLX.1.2.2.1]
  have Y : ∀ M1, pn_LY M1 0 q l t r → fX11_right a b x y z M1 = (if pb a (nI (q 3)) (nI 1000 - 1) = 0 then some (-2, M1) else if pb b 0 (nI (q 1) - 1) = 0 then some (-2, M1) else if pb3 x y z = 0 then some (-2, M1) else if nI (q 2) = (20 : Int32) then some (-3, M1) else fX11_right_139 ea_N b (nI (q 2)) 0 0 (ea_pI (ea_pI (ea_pI (ea_pI (ea_pI (ea_pI (ea_pI M1 114 3 a) 114 (754 + 5 * q 2) a) 114 (754 + 5 * q 2 + 1) b) 114 (754 + 5 * q 2 + 2) x) 114 (754 + 5 * q 2 + 3) y) 114 (754 + 5 * q 2 + 4) z) 114 2 (nI (q 2 + 1)))) := by
    intro M1 hL
    have e1 : M1.1 114 1 = nI (q 1) := hL.1 1 (by decide)
    have e2 : M1.1 114 2 = nI (q 2) := hL.1 2 (by decide)
    unfold fX11_right fX11_right_0
    rw [ea_ci_t (gy_tell hL a), ea_ci_t (py_in ..), ea_ci_t (py_cols x y z M1)]
    simp (disch := omega) only [ev_ck, ev_ci, ev_cv, ev_lt_, ↓reduceIte, ev_lens, ev_ix, ev_nz, ev_cl, ev_cll, ev_add, ev_addl, ev_ladd, ev_mul, ev_mull, ev_lmul, ev_sub, ev_subl, ev_lsub, ev_lt, ev_ltl, ev_llt, ev_le, ev_lel, ev_lle, ev_eq, ev_eql, ev_leq, ev_nm1, ev_nm5, ev_m1n, ev_neg1, ev_ltT, ev_ltF, ev_leT, ev_leF, ev_eqT, ev_eqF, ev_one0, ev_zero1, Nat.reduceAdd, Nat.reduceMul, Nat.reduceSub, ea_pI_eq, ev_pIn, ev_pIe, ea_pI_r, eq_self, e1, e2]
  by_cases c1 : pb a (nI (q 3)) (nI 1000 - 1) = 0
  · exact ⟨-2, M, M, by rw [X, if_pos c1], by rw [Y M hLY, if_pos c1], hM⟩
  by_cases c2 : pb b 0 (nI (q 1) - 1) = 0
  · exact ⟨-2, M, M, by rw [X, if_neg c1, if_pos c2], by rw [Y M hLY, if_neg c1, if_pos c2], hM⟩
  by_cases c4 : pb3 x y z = 0
  · exact ⟨-2, M, M, by rw [X, if_neg c1, if_neg c2, if_pos c4], by rw [Y M hLY, if_neg c1, if_neg c2, if_pos c4], hM⟩
  obtain ⟨step, s1, s2, ea⟩ := pb_nat (by omega) (by decide) ((pb_01 _ _ _).resolve_left c1)
  obtain ⟨of, hof, eb⟩ := pb_nat0 (by omega) ((pb_01 _ _ _).resolve_left c2)
  obtain ⟨-, ca, cb, cc, ha, hb, hc, ex, ey, ez⟩ := (pb3_s (a := x) (b := y) (c := z)).resolve_left c4
  have e20 : (nI (q 2) < (20 : Int32)) ↔ q 2 < 20 := nI_ltI (b := 20) (by omega) (by decide)
  have f20 : (nI (q 2) = (20 : Int32)) ↔ q 2 = 20 := nI_eq (b := 20) (by omega) (by decide)
  by_cases hq : q 2 < 20
  · obtain ⟨M1, r1, x1, f1, g1⟩ := px_addRight hok hLX hq (step := step) (of := of) (A := fun k => [ca, cb, cc].getD k 0)
    replace r1 : fX8_addRight 30 (nI step) (nI of) (nI ca) (nI cb) (nI cc) M = some M1 := r1
    have hLY1 : pn_LY M1 0 q l t r := hLY.fr hok (fun k _ _ => g1 _ _ (by decide))
    obtain ⟨x2, f2, g2⟩ := py_right hok hLY1 hq (step := step) (of := of) (A := fun k => [ca, cb, cc].getD k 0)
    have hok2 := rt_ok hok hq (step := step) (of := of) (A := fun k => [ca, cb, cc].getD k 0) (by omega) (by omega) (fun k hk => by rcases (show k = 0 ∨ k = 1 ∨ k = 2 by omega) with rfl | rfl | rfl <;> first | exact Nat.le_of_lt_succ ha | exact Nat.le_of_lt_succ hb | exact Nat.le_of_lt_succ hc)
    have R1 := px_rightsOf hok2 x1 (of := of) (by omega)
    have R2 := py_rights hok2 x2 (of := of) (by omega) (m := q 2) rfl
    refine ⟨nI (cnt (fun i => decide (ad_l r (q 2) [step, of, ca, cb, cc] i 1 = of)) (q 2 + 1)), M1, _, ?_, ?_, Inv_tell (f1.trans f2) h1 h2 h4 (n := n) ⟨hok2, x1.fr (fun d k hd => g2 _ _ (by omega)), x2, k1, k2, ?_⟩⟩
    · rw [X, if_neg c1, if_neg c2, if_neg c4, if_pos (e20.mpr hq), ea, eb, ex, ey, ez, ea_cv_t r1, ea_ci_t R1]
      rfl
    · rw [Y M1 hLY1, if_neg c1, if_neg c2, if_neg c4, if_neg (fun h => absurd (f20.mp h) (by omega)), ea, eb, ex, ey, ez]
      exact R2
    · intro i hi
      have hi : i < q 2 + 1 := hi
      show _ < q 1
      by_cases hiq : i = q 2
      · subst hiq
        unfold ad_l
        rw [if_pos rfl]
        exact hof
      · unfold ad_l
        rw [if_neg hiq]
        exact k3 i (by omega)
  · refine ⟨-3, M, M, by rw [X, if_neg c1, if_neg c2, if_neg c4, if_neg (fun h => hq (e20.mp h))], ?_, hM⟩
    rw [Y M hLY, if_neg c1, if_neg c2, if_neg c4, if_pos (f20.mpr (by omega))]
/-- sums -/
def sumN (f : Nat → Nat) : Nat → Nat
  | 0 => 0
  | k + 1 => sumN f k + f k
theorem sumN_s (f : Nat → Nat) (k : Nat) : sumN f (k + 1) = sumN f k + f k := rfl
theorem px_years {M : eM} {c : Nat} {n : Nat → Nat} {v : Nat → Nat → Nat} (hc : pn_c c) (hX : pn_X M c n v) (ho : pn_ok n v) {s : Nat} (hs : s < n 5) : fX1_yearsOf c (nI s) M = some (nI (sumN (fun i => v 4 (4 * (6 * s + i))) (v 3 s)), M) := by
  have b5 := ho.2.2.2.2.2.1
  obtain ⟨hh, hp⟩ := ho.2.2.2.2.2.2.2.2.2.2.2.2.2.1 s hs
  have e6 : M.1 (c + 6) s = nI (v 3 s) := hX.2.2.2.2.1 s hs
  have lp : ∀ (d k i : Nat), v 3 s - i = d → i ≤ v 3 s → d < k → fX1_yearsOf_4 c k (nI s) (nI (sumN (fun i => v 4 (4 * (6 * s + i))) i)) (nI i) M = some (nI (sumN (fun i => v 4 (4 * (6 * s + i))) (v 3 s)), M) := by
    intro d
    induction d with
    | zero =>
      intro k i hd hi hk
      obtain ⟨k, rfl⟩ : ∃ k', k = k' + 1 := ⟨k - 1, by omega⟩
      obtain rfl : i = v 3 s := by omega
      simp (disch := omega) only [ev_ck, ev_ci, ev_cv, ev_lt_, ↓reduceIte, ev_lens, ev_ix, ev_nz, ev_cl, ev_cll, ev_add, ev_addl, ev_ladd, ev_mul, ev_mull, ev_lmul, ev_sub, ev_subl, ev_lsub, ev_lt, ev_ltl, ev_llt, ev_le, ev_lel, ev_lle, ev_eq, ev_eql, ev_leq, ev_nm1, ev_nm5, ev_m1n, ev_neg1, ev_ltT, ev_ltF, ev_leT, ev_leF, ev_eqT, ev_eqF, ev_one0, ev_zero1, Nat.reduceAdd, Nat.reduceMul, Nat.reduceSub, ea_pI_eq, ev_pIn, ev_pIe, ea_pI_r, eq_self, fX1_yearsOf_4, e6, pn_l6 hc]
    | succ d ih =>
      intro k i hd hi hk
      obtain ⟨k, rfl⟩ : ∃ k', k = k' + 1 := ⟨k - 1, by omega⟩
      have g : M.1 (c + 7) ((s * 6 + i) * 4) = nI (v 4 (4 * (6 * s + i))) := by rw [Nat.mul_comm s 6, Nat.mul_comm _ 4]; exact hX.2.2.2.2.2.1 s i 0 hs (by omega) (by decide)
      have nx := ih k (i + 1) (by omega) (by omega) (by omega)
      rw [sumN_s] at nx
      simp (disch := omega) only [ev_ck, ev_ci, ev_cv, ev_lt_, ↓reduceIte, ev_lens, ev_ix, ev_nz, ev_cl, ev_cll, ev_add, ev_addl, ev_ladd, ev_mul, ev_mull, ev_lmul, ev_sub, ev_subl, ev_lsub, ev_lt, ev_ltl, ev_llt, ev_le, ev_lel, ev_lle, ev_eq, ev_eql, ev_leq, ev_nm1, ev_nm5, ev_m1n, ev_neg1, ev_ltT, ev_ltF, ev_leT, ev_leF, ev_eqT, ev_eqF, ev_one0, ev_zero1, Nat.reduceAdd, Nat.reduceMul, Nat.reduceSub, ea_pI_eq, ev_pIn, ev_pIe, ea_pI_r, eq_self, fX1_yearsOf_4, fX1_hangPlace, fX1_hangPlace_0, e6, pn_l6 hc, pn_l7 hc, g]
      exact nx
  exact lp (v 3 s) ea_N 0 (by omega) (by omega) (by unfold ea_N; omega)
