theorem at_ok {q : Nat → Nat} {l t r : Nat → Nat → Nat} (hok : pn_Lok q l t r) (hq : q 1 < 20) {step cell hrs : Nat} {A : Nat → Nat} (hs : step ≤ 999) (hc : cell < 48) (hh : 1 ≤ hrs ∧ hrs ≤ 999) (hA : ∀ k, k < 3 → A k ≤ 99) : pn_Lok (ad_q q 1 step) l (ad_l t (q 1) [step, cell, hrs, A 0, A 1, A 2]) r := by
  obtain ⟨o1, o2, o3, o4, o5, o6, o7⟩ := hok
  have a0 := hA 0 (by decide)
  have a1 := hA 1 (by decide)
  have a2 := hA 2 (by decide)
  refine ⟨o1, show q 1 + 1 ≤ 20 by omega, o3, hs, o5, ?_, o7⟩
  intro i hi
  have hi : i < q 1 + 1 := hi
  by_cases hiq : i = q 1
  · subst hiq
    have er : ∀ k, ad_l t (q 1) [step, cell, hrs, A 0, A 1, A 2] (q 1) k = [step, cell, hrs, A 0, A 1, A 2].getD k 0 := fun k => if_pos rfl
    simp only [er]
    refine ⟨hs, hc, hh, fun k hk => ?_⟩
    rcases (show k = 0 ∨ k = 1 ∨ k = 2 by omega) with rfl | rfl | rfl
    · exact a0
    · exact a1
    · exact a2
  · have er : ∀ k, ad_l t (q 1) [step, cell, hrs, A 0, A 1, A 2] i k = t i k := fun k => if_neg hiq
    simp only [er]
    exact o6 i (by omega)
theorem st_attempt (a b d x y z : Int32) : ea_st Inv (fX10_attempt a b d x y z) (fX11_attempt a b d x y z) := by
  intro M hM
  obtain ⟨c, n, v, th, o, w, len, q, l, t, r, h1, h2, h3, h4⟩ := id hM
  obtain ⟨hok, hLX, hLY, k1, k2, k3⟩ := id h3
  have ho := h1.2.2.2.1
  have hcl : n 0 * n 1 ≤ 48 := Nat.mul_le_mul ho.1.2 ho.2.1.2
  have hq3 := hok.2.2.2.1
  have hq1 := hok.2.1
  have X : fX10_attempt a b d x y z M = (if pb a (nI (q 3)) (nI 1000 - 1) = 0 then some (-2, M) else if pb b 0 (nI (n 0 * n 1) - 1) = 0 then some (-2, M) else if pb d (nI 1) (nI 1000 - 1) = 0 then some (-2, M) else if pb3 x y z = 0 then some (-2, M) else if nI (q 1) < (20 : Int32) then ea_cv (fX8_addTried 30 a b d x y z M) (fun M19 => some (M19.1 30 4 - 1, M19)) else some (-3, M)) := by
    unfold fX10_attempt fX10_attempt_0
    rw [ea_ci_t (gx_tell hLX a), ea_ci_t (gx_cell h1 b), ea_ci_t (px_in ..), ea_ci_t (px_cols x y z M), hLX.1.2.1]
    rfl
  have Y : ∀ M1, pn_C M1 c n v th o w → pn_LY M1 0 q l t r → fX11_attempt a b d x y z M1 = (if pb a (nI (q 3)) (nI 1000 - 1) = 0 then some (-2, M1) else if pb b 0 (nI (n 0 * n 1) - 1) = 0 then some (-2, M1) else if pb d (nI 1) (nI 1000 - 1) = 0 then some (-2, M1) else if pb3 x y z = 0 then some (-2, M1) else if nI (q 1) = (20 : Int32) then some (-3, M1) else (some (nI (q 1), ea_pI (ea_pI (ea_pI (ea_pI (ea_pI (ea_pI (ea_pI (ea_pI M1 114 3 a) 114 (634 + 6 * q 1) a) 114 (634 + 6 * q 1 + 1) b) 114 (634 + 6 * q 1 + 2) d) 114 (634 + 6 * q 1 + 3) x) 114 (634 + 6 * q 1 + 4) y) 114 (634 + 6 * q 1 + 5) z) 114 1 (nI (q 1 + 1))))) := by
    intro M1 hC hL
    have e1 : M1.1 114 1 = nI (q 1) := hL.1 1 (by decide)
    unfold fX11_attempt fX11_attempt_0
    rw [ea_ci_t (gy_tell hL a), ea_ci_t (gy_cell hC b), ea_ci_t (py_in ..), ea_ci_t (py_cols x y z M1)]
    simp (disch := omega) only [ev_ck, ev_ci, ev_cv, ev_lt_, ↓reduceIte, ev_lens, ev_ix, ev_nz, ev_cl, ev_cll, ev_add, ev_addl, ev_ladd, ev_mul, ev_mull, ev_lmul, ev_sub, ev_subl, ev_lsub, ev_lt, ev_ltl, ev_llt, ev_le, ev_lel, ev_lle, ev_eq, ev_eql, ev_leq, ev_nm1, ev_nm5, ev_m1n, ev_neg1, ev_ltT, ev_ltF, ev_leT, ev_leF, ev_eqT, ev_eqF, ev_one0, ev_zero1, Nat.reduceAdd, Nat.reduceMul, Nat.reduceSub, ea_pI_eq, ev_pIn, ev_pIe, ea_pI_r, eq_self, e1]
    rfl
  by_cases c1 : pb a (nI (q 3)) (nI 1000 - 1) = 0
  · exact ⟨-2, M, M, by rw [X, if_pos c1], by rw [Y M h1 hLY, if_pos c1], hM⟩
  by_cases c2 : pb b 0 (nI (n 0 * n 1) - 1) = 0
  · exact ⟨-2, M, M, by rw [X, if_neg c1, if_pos c2], by rw [Y M h1 hLY, if_neg c1, if_pos c2], hM⟩
  by_cases c3 : pb d (nI 1) (nI 1000 - 1) = 0
  · exact ⟨-2, M, M, by rw [X, if_neg c1, if_neg c2, if_pos c3], by rw [Y M h1 hLY, if_neg c1, if_neg c2, if_pos c3], hM⟩
  by_cases c4 : pb3 x y z = 0
  · exact ⟨-2, M, M, by rw [X, if_neg c1, if_neg c2, if_neg c3, if_pos c4], by rw [Y M h1 hLY, if_neg c1, if_neg c2, if_neg c3, if_pos c4], hM⟩
  obtain ⟨step, s1, s2, ea⟩ := pb_nat (by omega) (by decide) ((pb_01 _ _ _).resolve_left c1)
  obtain ⟨cell, hcell, eb⟩ := pb_nat0 (by omega) ((pb_01 _ _ _).resolve_left c2)
  obtain ⟨hrs, hh1, hh2, ed⟩ := pb_nat (by omega) (by decide) ((pb_01 _ _ _).resolve_left c3)
  obtain ⟨-, ca, cb, cc, ha, hb, hc, ex, ey, ez⟩ := (pb3_s (a := x) (b := y) (c := z)).resolve_left c4
  have e20 : (nI (q 1) < (20 : Int32)) ↔ q 1 < 20 := nI_ltI (b := 20) (by omega) (by decide)
  have f20 : (nI (q 1) = (20 : Int32)) ↔ q 1 = 20 := nI_eq (b := 20) (by omega) (by decide)
  by_cases hq : q 1 < 20
  · obtain ⟨M1, r1, x1, f1, y1, g1⟩ := px_addTried hok hLX hq (step := step) (cell := cell) (hrs := hrs) (A := fun k => [ca, cb, cc].getD k 0)
    replace r1 : fX8_addTried 30 (nI step) (nI cell) (nI hrs) (nI ca) (nI cb) (nI cc) M = some M1 := r1
    have hLY1 : pn_LY M1 0 q l t r := hLY.fr hok (fun k _ _ => g1 _ _ (by decide))
    obtain ⟨x2, f2, g2⟩ := py_tried hok hLY1 hq _ rfl (step := step) (cell := cell) (hrs := hrs) (A := fun k => [ca, cb, cc].getD k 0)
    refine ⟨nI (q 1), M1, _, ?_, ?_, Inv_tell (f1.trans f2) h1 h2 h4 (n := n) ⟨at_ok hok hq (step := step) (cell := cell) (hrs := hrs) (A := fun k => [ca, cb, cc].getD k 0) (by omega) (by omega) ⟨hh1, by omega⟩ (fun k hk => by rcases (show k = 0 ∨ k = 1 ∨ k = 2 by omega) with rfl | rfl | rfl <;> first | exact Nat.le_of_lt_succ ha | exact Nat.le_of_lt_succ hb | exact Nat.le_of_lt_succ hc), x1.fr (fun d k hd => g2 _ _ (by omega)), x2, k1, ?_, ?_⟩⟩
    · rw [X, if_neg c1, if_neg c2, if_neg c3, if_neg c4, if_pos (e20.mpr hq), ea, eb, ed, ex, ey, ez, ea_cv_t r1, y1]
      show some (nI (q 1 + 1) - 1, M1) = _
      rw [nI_pred]
    · rw [Y M1 (h1.fr f1.C) hLY1, if_neg c1, if_neg c2, if_neg c3, if_neg c4, if_neg (fun h => absurd (f20.mp h) (by omega)), ea, eb, ed, ex, ey, ez]
      rfl
    · intro i hi
      have hi : i < q 1 + 1 := hi
      by_cases hiq : i = q 1
      · subst hiq
        unfold ad_l
        rw [if_pos rfl]
        exact hcell
      · unfold ad_l
        rw [if_neg hiq]
        exact k2 i (by omega)
    · intro i hi
      have hi : i < q 2 := hi
      have := k3 i hi
      show r i 1 < q 1 + 1
      omega
  · refine ⟨-3, M, M, by rw [X, if_neg c1, if_neg c2, if_neg c3, if_neg c4, if_neg (fun h => hq (e20.mp h))], ?_, hM⟩
    rw [Y M h1 hLY, if_neg c1, if_neg c2, if_neg c3, if_neg c4, if_pos (f20.mpr (by omega))]
