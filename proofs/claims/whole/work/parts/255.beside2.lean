theorem lt_sh {x y : Nat} (hx : x < 1000) (hy : y < 1000) : (nI x + 1 < nI y - 1) = (x + 2 < y) := by
  apply propext
  rw [Int32.lt_iff_toInt_lt, show nI x + 1 = nI (x + 1) from nI_add x 1, nI_toInt (by omega), show (nI y - 1 : Int32) = nI y - nI 1 from rfl, pk_sub_toInt (by omega) (by omega)]
  omega
theorem sz_beside (x1 x2 x3 x4 : Int32) : ea_st InvZ (fX10_beside x1 x2 x3 x4) (fX11_beside x1 x2 x3 x4) := by
  refine ea_qz (fun M c n v th o w q l t r hC => ?_)
  have ho := hC.1.2.2.2.1
  have hn0 := ho.1
  have hn1 := ho.2.1
  have hcl : n 0 * n 1 ≤ 48 := Nat.mul_le_mul ho.1.2 ho.2.1.2
  have hcc := hC.1.1
  have gx := gx_fit hC.1 x1 x2 x3
  have px : fX10_isWithin x4 0 2 M = some (pb x4 0 (nI 3 - 1), M) := px_in x4 0 2 M
  rcases ak_cs ho x1 x2 x3 with h0 | ⟨h0, cell, s, kn, hc1, hc2, hs, hk, rfl, rfl, rfl⟩
  · refine ⟨-2, ⟨M, by unfold fX10_beside fX10_beside_0; simp (disch := omega) only [ev_ck, ev_ci, ev_cv, ev_lt_, ↓reduceIte, ev_lens, ev_ix, ev_nz, ev_cl, ev_cll, ev_add, ev_addl, ev_ladd, ev_mul, ev_mull, ev_lmul, ev_sub, ev_subl, ev_lsub, ev_lt, ev_ltl, ev_llt, ev_le, ev_lel, ev_lle, ev_eq, ev_eql, ev_leq, ev_nm1, ev_nm5, ev_m1n, ev_neg1, ev_ltT, ev_ltF, ev_leT, ev_leF, ev_eqT, ev_eqF, ev_one0, ev_zero1, Nat.reduceAdd, Nat.reduceMul, Nat.reduceSub, ea_pI_eq, ev_pIn, ev_pIe, ea_pI_r, eq_self, gx, h0], Kp.rf M⟩, fun M1 h1 => ⟨M1, ?_, Kp.rf M1⟩⟩
    have gy := gy_fit h1.1 x1 x2 x3
    unfold fX11_beside fX11_beside_0
    simp (disch := omega) only [ev_ck, ev_ci, ev_cv, ev_lt_, ↓reduceIte, ev_lens, ev_ix, ev_nz, ev_cl, ev_cll, ev_add, ev_addl, ev_ladd, ev_mul, ev_mull, ev_lmul, ev_sub, ev_subl, ev_lsub, ev_lt, ev_ltl, ev_llt, ev_le, ev_lel, ev_lle, ev_eq, ev_eql, ev_leq, ev_nm1, ev_nm5, ev_m1n, ev_neg1, ev_ltT, ev_ltF, ev_leT, ev_leF, ev_eqT, ev_eqF, ev_one0, ev_zero1, Nat.reduceAdd, Nat.reduceMul, Nat.reduceSub, ea_pI_eq, ev_pIn, ev_pIe, ea_pI_r, eq_self, gy, h0]
  rcases (pb_01 x4 0 (nI 3 - 1)) with hb | hb
  · refine ⟨-2, ⟨M, by unfold fX10_beside fX10_beside_0; rw [gx, h0, ev_ci, if_neg (by decide), px, hb, ev_ci, if_pos rfl], Kp.rf M⟩, fun M1 h1 => ⟨M1, ?_, Kp.rf M1⟩⟩
    have gy := gy_fit h1.1 (nI cell) (nI s) (nI kn)
    have py : fX11_in x4 0 2 M1 = some (pb x4 0 (nI 3 - 1), M1) := py_in x4 0 2 M1
    unfold fX11_beside fX11_beside_0
    rw [gy, h0, ev_ci, if_neg (by decide), py, hb, ev_ci, if_pos rfl]
  obtain ⟨wh, hwh, rfl⟩ := pb_nat0 (by decide) hb
  have ub := fun cell => thr_b hC (s := s) (kn := kn) (cell := cell)
  have sx : ∀ M1 cell, Ctx M1 c n v th o w q l t r → cell < 48 → ∃ M', fX10_sureThread (nI cell) (nI s) (nI kn) M1 = some (thr n v th o w q l t r s kn cell, M') ∧ FrF 50 M1 M' := fun M1 cell h1 h2 => px_sure h1 h2 hk hs
  have sy : ∀ M1 cell, Ctx M1 c n v th o w q l t r → cell < 48 → ∃ M', fX11_onlyThread (nI cell) (nI s) (nI kn) M1 = some (thr n v th o w q l t r s kn cell, M') ∧ FrW M1 M' := fun M1 cell h1 h2 => py_only h1 h2 hk hs
  generalize thr n v th o w q l t r s kn = u at ub sx sy
  have hr : cell / n 0 < n 1 := Nat.div_lt_of_lt_mul hc1
  have hc : cell % n 0 < n 0 := Nat.mod_lt _ (by omega)
  have hdm := Nat.div_add_mod cell (n 0)
  have nb := fun M1 (h1 : Ctx M1 c n v th o w q l t r) (a b : Nat) (ha : a < 3) (hb : b < 3) => px_nb h1 hc1 ha hb
  have hdv : nI cell / nI (n 0) = nI (cell / n 0) := ev_div (by omega) (by omega) (by omega)
  have hrm : nI cell - nI cell / nI (n 0) * nI (n 0) = nI (cell % n 0) := ev_rem (by omega) (by omega) (by omega)
  generalize cell % n 0 = k0 at nb hc hdm hrm
  generalize cell / n 0 = r0 at nb hr hdm hdv
  have on_lt : ∀ k, nbOn (n 0) (n 1) k0 r0 (k % 3) (k / 3) = true → (r0 + k / 3 - 1) * n 0 + (k0 + k % 3 - 1) < 48 := by
    intro k h
    have h' := (nbOn_t.mp h).1
    have := cell_lt (x := r0 + k / 3 - 1) (y := k0 + k % 3 - 1) (n0 := n 0) (n1 := n 1) (by omega) (by omega)
    omega
  generalize hV : (fun i => u ((nbL (n 0) (n 1) k0 r0 9).getD i 0)) = V
  have hlen9 := nbL_len (n 0) (n 1) k0 r0 9
  have hlen9 : (nbL (n 0) (n 1) k0 r0 9).length ≤ 8 := hlen9
  have hVb : ∀ i, V i = -1 ∨ ∃ x, x < 855 ∧ V i = nI x := fun i => by rw [← hV]; exact ub _
  refine ⟨if wh = 2 then nI (nbL (n 0) (n 1) k0 r0 9).length else if wh = 0 then (bst V (nbL (n 0) (n 1) k0 r0 9).length (nbL (n 0) (n 1) k0 r0 9).length).1 else nI (bst V (nbL (n 0) (n 1) k0 r0 9).length (nbL (n 0) (n 1) k0 r0 9).length).2, ?_, fun M3 h3 => ?_⟩
  · have lp : ∀ (d f k : Nat) (M1 : eM), 9 - k = d → k ≤ 9 → d < f → Kp M M1 → (∀ i, i < (nbL (n 0) (n 1) k0 r0 k).length → M1.1 79 i = if wh = 2 then -1 else u ((nbL (n 0) (n 1) k0 r0 k).getD i 0)) → ∃ M2, fX10_beside_29 fX10_beside_101 f (nI cell) (nI s) (nI kn) (nI wh) (nI (nbL (n 0) (n 1) k0 r0 k).length) (nI k) M1 = fX10_beside_101 (nI wh) (nI (nbL (n 0) (n 1) k0 r0 9).length) M2 ∧ Kp M M2 ∧ (∀ i, i < (nbL (n 0) (n 1) k0 r0 9).length → M2.1 79 i = if wh = 2 then -1 else u ((nbL (n 0) (n 1) k0 r0 9).getD i 0)) := by
      intro d
      induction d with
      | zero =>
        intro f k M1 hd hk9 hf hK hI
        obtain ⟨f, rfl⟩ : ∃ f', f = f' + 1 := ⟨f - 1, by omega⟩
        obtain rfl : k = 9 := by omega
        refine ⟨M1, ?_, hK, hI⟩
        simp (disch := omega) only [ev_ck, ev_ci, ev_cv, ev_lt_, ↓reduceIte, ev_lens, ev_ix, ev_nz, ev_cl, ev_cll, ev_add, ev_addl, ev_ladd, ev_mul, ev_mull, ev_lmul, ev_sub, ev_subl, ev_lsub, ev_lt, ev_ltl, ev_llt, ev_le, ev_lel, ev_lle, ev_eq, ev_eql, ev_leq, ev_nm1, ev_nm5, ev_m1n, ev_neg1, ev_ltT, ev_ltF, ev_leT, ev_leF, ev_eqT, ev_eqF, ev_one0, ev_zero1, Nat.reduceAdd, Nat.reduceMul, Nat.reduceSub, ea_pI_eq, ev_pIn, ev_pIe, ea_pI_r, eq_self, fX10_beside_29]
      | succ d ih =>
        intro f k M1 hd hk9 hf hK hI
        obtain ⟨f, rfl⟩ : ∃ f', f = f' + 1 := ⟨f - 1, by omega⟩
        have hC1 := hC.kp hK
        have hlen := nbL_len (n 0) (n 1) k0 r0 k
        have hlen : (nbL (n 0) (n 1) k0 r0 k).length ≤ 8 := by
          by_cases h4 : k ≤ 4
          · rw [if_pos h4] at hlen; omega
          · rw [if_neg h4] at hlen; omega
        have nbk := nb M1 hC1 (k % 3) (k / 3) (by omega) (by omega)
        have rem3 : nI k - nI k / (3 : Int32) * (3 : Int32) = nI (k % 3) := ev_rem (b := 3) (by omega) (by omega) (by omega)
        have dv3 : nI k / (3 : Int32) = nI (k / 3) := ev_div (b := 3) (by omega) (by omega) (by omega)
        rw [fX10_beside_29, if_neg (by rw [show (9 : Int32) = nI 9 from rfl, pn_leI (by omega) (by omega)]; omega), hC1.1.2.1, ea_ck_t (pn_is hcc), rem3, dv3, nbk, ev_ci]
        have es := nbL_s (n 0) (n 1) k0 r0 k
        by_cases hon : nbOn (n 0) (n 1) k0 r0 (k % 3) (k / 3) = true
        · rw [if_pos hon] at es
          have hlt := on_lt k hon
          rw [if_pos hon, if_neg (ev_neg (by omega) (by decide))]
          generalize (r0 + k / 3 - 1) * n 0 + (k0 + k % 3 - 1) = c' at es hlt
          have put : ∀ M2 x, Kp M M2 → (∀ i, i < (nbL (n 0) (n 1) k0 r0 k).length → M2.1 79 i = M1.1 79 i) → x = (if wh = 2 then -1 else u c') → ∃ M4, fX10_beside_91 (fX10_beside_29 fX10_beside_101 f) (nI cell) (nI s) (nI kn) (nI wh) (nI (nbL (n 0) (n 1) k0 r0 k).length) (nI k) x (nI (nbL (n 0) (n 1) k0 r0 k).length) M2 = fX10_beside_101 (nI wh) (nI (nbL (n 0) (n 1) k0 r0 9).length) M4 ∧ Kp M M4 ∧ (∀ i, i < (nbL (n 0) (n 1) k0 r0 9).length → M4.1 79 i = if wh = 2 then -1 else u ((nbL (n 0) (n 1) k0 r0 9).getD i 0)) := by
            intro M2 x hK2 hI2 hx
            obtain ⟨M4, q1, q2⟩ := ih f (k + 1) (ea_pI M2 79 (nbL (n 0) (n 1) k0 r0 k).length x) (by omega) (by omega) (by omega) (hK2.trans (kp_pI (by omega))) (fun i hi => by
              rw [es, List.length_append] at hi
              have hi : i < (nbL (n 0) (n 1) k0 r0 k).length + 1 := hi
              rw [es]
              by_cases e : i < (nbL (n 0) (n 1) k0 r0 k).length
              · rw [ea_pI_ne (by omega), hI2 i e, hI i e, getD_l e]
              · obtain rfl : i = (nbL (n 0) (n 1) k0 r0 k).length := by omega
                rw [ea_pI_eq, getD_r, hx])
            rw [es, List.length_append] at q1
            refine ⟨M4, ?_, q2⟩
            simp (disch := omega) only [ev_ck, ev_ci, ev_cv, ev_lt_, ↓reduceIte, ev_lens, ev_ix, ev_nz, ev_cl, ev_cll, ev_add, ev_addl, ev_ladd, ev_mul, ev_mull, ev_lmul, ev_sub, ev_subl, ev_lsub, ev_lt, ev_ltl, ev_llt, ev_le, ev_lel, ev_lle, ev_eq, ev_eql, ev_leq, ev_nm1, ev_nm5, ev_m1n, ev_neg1, ev_ltT, ev_ltF, ev_leT, ev_leF, ev_eqT, ev_eqF, ev_one0, ev_zero1, Nat.reduceAdd, Nat.reduceMul, Nat.reduceSub, ea_pI_eq, ev_pIn, ev_pIe, ea_pI_r, eq_self, fX10_beside_91, fX10_beside_95]
            exact q1
          by_cases hw2 : wh = 2
          · rw [if_pos (by rw [hw2]; rfl)]
            exact put M1 (-1) hK (fun _ _ => rfl) (by rw [if_pos hw2])
          · obtain ⟨M2, e2, r2⟩ := sx M1 c' hC1 (by omega)
            rw [if_neg (by rw [show (2 : Int32) = nI 2 from rfl, pn_eqI (by omega) (by omega)]; exact hw2), e2, ev_ci]
            exact put M2 (u c') (hK.trans (r2.kp (Or.inl rfl))) (fun i _ => r2.1 _ _ (by omega)) (by rw [if_neg hw2])
        · rw [if_neg hon, List.append_nil] at es
          obtain ⟨M4, q1, q2⟩ := ih f (k + 1) M1 (by omega) (by omega) (by omega) hK (by rw [es]; exact hI)
          rw [es] at q1
          refine ⟨M4, ?_, q2⟩
          rw [if_neg hon, if_pos rfl]
          simp (disch := omega) only [ev_ck, ev_ci, ev_cv, ev_lt_, ↓reduceIte, ev_lens, ev_ix, ev_nz, ev_cl, ev_cll, ev_add, ev_addl, ev_ladd, ev_mul, ev_mull, ev_lmul, ev_sub, ev_subl, ev_lsub, ev_lt, ev_ltl, ev_llt, ev_le, ev_lel, ev_lle, ev_eq, ev_eql, ev_leq, ev_nm1, ev_nm5, ev_m1n, ev_neg1, ev_ltT, ev_ltF, ev_leT, ev_leF, ev_eqT, ev_eqF, ev_one0, ev_zero1, Nat.reduceAdd, Nat.reduceMul, Nat.reduceSub, ea_pI_eq, ev_pIn, ev_pIe, ea_pI_r, eq_self, fX10_beside_95]
          exact q1
    obtain ⟨M2, e2, k2, i2⟩ := lp 9 ea_N 0 M (by omega) (by omega) (by unfold ea_N; omega) (Kp.rf M) (fun i hi => absurd hi (Nat.not_lt_zero _))
    refine ⟨M2, ?_, k2⟩
    unfold fX10_beside fX10_beside_0
    rw [gx, h0, ev_ci, if_neg (by decide), px, hb, ev_ci, if_neg (by decide)]
    refine (show fX10_beside_29 _ ea_N (nI cell) (nI s) (nI kn) (nI wh) 0 0 M = _ from e2).trans ?_
    unfold fX10_beside_101
    by_cases hw2 : wh = 2
    · rw [if_pos hw2, if_pos (by rw [hw2]; rfl)]
    · rw [if_neg hw2, if_neg (by rw [show (2 : Int32) = nI 2 from rfl, pn_eqI (by omega) (by omega)]; exact hw2)]
      have bs := px_bst hlen9 (V := V) (M := M2) (fun i hi => by rw [i2 i hi, if_neg hw2, ← hV]) (nI wh) fX10_beside_207 (nbL (n 0) (n 1) k0 r0 9).length ea_N 0 (by omega) (by omega) (by unfold ea_N; omega)
      refine (show fX10_beside_119 _ ea_N (nI wh) _ (-1) 0 0 M2 = _ from bs).trans ?_
      unfold fX10_beside_207
      by_cases hw0 : wh = 0
      · rw [if_pos hw0, if_pos (by rw [hw0]; rfl)]
      · rw [if_neg hw0, if_neg (by rw [pn_eq0 (by omega)]; exact hw0)]
  · have hY := fun M1 (h1 : Ctx M1 c n v th o w q l t r) => h1.1.2.2.2.2.2.1
    have inner : ∀ (k145 : Int32 → Int32 → Int32 → Int32 → Int32 → Int32 → Int32 → eM → Option (Int32 × eM)) (b : Nat), b < 3 → ∀ (d f a : Nat) (M1 : eM), 3 - a = d → a ≤ 3 → d < f → Kp M3 M1 → (∀ i, i < (nbL (n 0) (n 1) k0 r0 (3 * b + a)).length → M1.1 127 i = u ((nbL (n 0) (n 1) k0 r0 (3 * b + a)).getD i 0)) → ∃ M2, fX11_beside_61 k145 f (nI cell) (nI s) (nI kn) (nI wh) (nI (n 0)) (nI (nbL (n 0) (n 1) k0 r0 (3 * b + a)).length) (nI (r0 + b) - 1) (nI (k0 + a) - 1) M1 = k145 (nI cell) (nI s) (nI kn) (nI wh) (nI (n 0)) (nI (nbL (n 0) (n 1) k0 r0 (3 * b + 3)).length) (nI (r0 + b) - 1) M2 ∧ Kp M3 M2 ∧ (∀ i, i < (nbL (n 0) (n 1) k0 r0 (3 * b + 3)).length → M2.1 127 i = u ((nbL (n 0) (n 1) k0 r0 (3 * b + 3)).getD i 0)) := by
      intro k145 b hb3 d
      induction d with
      | zero =>
        intro f a M1 hd ha hf hK hI
        obtain ⟨f, rfl⟩ : ∃ f', f = f' + 1 := ⟨f - 1, by omega⟩
        obtain rfl : a = 3 := by omega
        refine ⟨M1, ?_, hK, hI⟩
        rw [fX11_beside_61, ea_ck_t (pn_nz (by omega) (by omega)), hrm, if_pos (by rw [lt_sh (by omega) (by omega)]; omega)]
      | succ d ih =>
        intro f a M1 hd ha hf hK hI
        obtain ⟨f, rfl⟩ : ∃ f', f = f' + 1 := ⟨f - 1, by omega⟩
        have hC1 := h3.kp hK
        have e1 := (hY M1 hC1).1.2.1
        have hlen := nbL_len (n 0) (n 1) k0 r0 (3 * b + a)
        have es := nbL_s (n 0) (n 1) k0 r0 (3 * b + a)
        have md : (3 * b + a) % 3 = a := by omega
        have dv : (3 * b + a) / 3 = b := by omega
        rw [md, dv] at es
        have skip : nbOn (n 0) (n 1) k0 r0 a b ≠ true → ∃ M2, fX11_beside_139 (fX11_beside_61 k145 f) (nI cell) (nI s) (nI kn) (nI wh) (nI (n 0)) (nI (nbL (n 0) (n 1) k0 r0 (3 * b + a)).length) (nI (r0 + b) - 1) (nI (k0 + a) - 1) M1 = k145 (nI cell) (nI s) (nI kn) (nI wh) (nI (n 0)) (nI (nbL (n 0) (n 1) k0 r0 (3 * b + 3)).length) (nI (r0 + b) - 1) M2 ∧ Kp M3 M2 ∧ (∀ i, i < (nbL (n 0) (n 1) k0 r0 (3 * b + 3)).length → M2.1 127 i = u ((nbL (n 0) (n 1) k0 r0 (3 * b + 3)).getD i 0)) := by
          intro hon
          rw [if_neg hon, List.append_nil] at es
          obtain ⟨M4, q1, q2⟩ := ih f (a + 1) M1 (by omega) (by omega) (by omega) hK (by rw [← Nat.add_assoc, es]; exact hI)
          rw [← Nat.add_assoc, es] at q1
          refine ⟨M4, ?_, q2⟩
          unfold fX11_beside_139
          rw [pz_sh1, Nat.add_assoc k0]
          exact q1
        rw [fX11_beside_61, ea_ck_t (pn_nz (by omega) (by omega)), hrm, if_neg (by rw [lt_sh (by omega) (by omega)]; omega), show (1 : Int32).toNatClampNeg = 1 from rfl, e1, py_in, ev_ci, pb_sh (by omega) (by omega)]
        by_cases q1 : 1 ≤ r0 + b ∧ r0 + b ≤ n 1
        · rw [if_pos q1, if_neg (by decide), py_in, ev_ci, pb_sh (by omega) (by omega)]
          by_cases q2 : 1 ≤ k0 + a ∧ k0 + a ≤ n 0
          · have hlt := cell_lt (x := r0 + b - 1) (y := k0 + a - 1) (n0 := n 0) (n1 := n 1) (by omega) (by omega)
            have hm1 : n 0 * (r0 + b - 1) = (r0 + b - 1) * n 0 := Nat.mul_comm _ _
            have ev1 : nI (n 0) * (nI (r0 + b) - 1) + (nI (k0 + a) - 1) = nI ((r0 + b - 1) * n 0 + (k0 + a - 1)) := by
              rw [show nI (r0 + b) - 1 = nI (r0 + b - 1) from ev_sub (b := 1) (by omega), show nI (k0 + a) - 1 = nI (k0 + a - 1) from ev_sub (b := 1) (by omega), ev_mul, ev_add, hm1]
            rw [if_pos q2, if_neg (by decide), ev1]
            have eqc : (r0 + b - 1) * n 0 + (k0 + a - 1) = cell ↔ (a = 1 ∧ b = 1) := by
              rw [← hdm, ← hm1]
              rcases (show b = 0 ∨ b = 1 ∨ b = 2 by omega) with rfl | rfl | rfl
              · obtain ⟨r', rfl⟩ : ∃ r', r0 = r' + 1 := ⟨r0 - 1, by omega⟩
                rw [show r' + 1 + 0 - 1 = r' by omega, Nat.mul_succ]
                omega
              · rw [show r0 + 1 - 1 = r0 by omega]
                omega
              · rw [show r0 + 2 - 1 = r0 + 1 by omega, Nat.mul_succ]
                omega
            by_cases q3 : a = 1 ∧ b = 1
            · rw [if_pos (by rw [eqc.mpr q3])]
              exact skip (fun h => (nbOn_t.mp h).2 q3)
            · rw [if_neg (by rw [pn_eqI (by omega) (by omega)]; exact fun h => q3 (eqc.mp h))]
              rw [if_pos (nbOn_t.mpr ⟨⟨q2, q1⟩, q3⟩)] at es
              generalize (r0 + b - 1) * n 0 + (k0 + a - 1) = c' at es hlt
              obtain ⟨M2, e2, r2⟩ := sy M1 c' hC1 (by omega)
              have hl7 : (nbL (n 0) (n 1) k0 r0 (3 * b + a)).length < 8 := by
                by_cases h4 : 3 * b + a ≤ 4
                · rw [if_pos h4] at hlen; omega
                · rw [if_neg h4] at hlen; omega
              obtain ⟨M4, q4, q5⟩ := ih f (a + 1) (ea_pI M2 127 (nbL (n 0) (n 1) k0 r0 (3 * b + a)).length (u c')) (by omega) (by omega) (by omega) ((hK.trans r2.kp).trans (kp_pI (by omega))) (fun i hi => by
                rw [← Nat.add_assoc, es, List.length_append] at hi
                have hi : i < (nbL (n 0) (n 1) k0 r0 (3 * b + a)).length + 1 := hi
                rw [← Nat.add_assoc, es]
                by_cases e : i < (nbL (n 0) (n 1) k0 r0 (3 * b + a)).length
                · rw [ea_pI_ne (by omega), r2.1 _ _ (by omega) (by omega), hI i e, getD_l e]
                · obtain rfl : i = (nbL (n 0) (n 1) k0 r0 (3 * b + a)).length := by omega
                  rw [ea_pI_eq, getD_r])
              rw [← Nat.add_assoc, es, List.length_append] at q4
              refine ⟨M4, ?_, q5⟩
              rw [e2, ev_ci]
              simp (disch := omega) only [ev_ck, ev_ci, ev_cv, ev_lt_, ↓reduceIte, ev_lens, ev_ix, ev_nz, ev_cl, ev_cll, ev_add, ev_addl, ev_ladd, ev_mul, ev_mull, ev_lmul, ev_lsub, ev_lt, ev_ltl, ev_llt, ev_le, ev_lel, ev_lle, ev_eq, ev_eql, ev_leq, ev_nm1, ev_nm5, ev_m1n, ev_neg1, ev_ltT, ev_ltF, ev_leT, ev_leF, ev_eqT, ev_eqF, ev_one0, ev_zero1, Nat.reduceAdd, Nat.reduceMul, Nat.reduceSub, ea_pI_eq, ev_pIn, ev_pIe, ea_pI_r, eq_self]
              unfold fX11_beside_139
              rw [pz_sh1, Nat.add_assoc k0]
              exact q4
          · rw [if_neg q2, if_pos rfl]
            exact skip (fun h => q2 (nbOn_t.mp h).1.1)
        · rw [if_neg q1, if_pos rfl]
          exact skip (fun h => q1 (nbOn_t.mp h).1.2)
    have outer : ∀ (d f b : Nat) (M1 : eM), 3 - b = d → b ≤ 3 → d < f → Kp M3 M1 → (∀ i, i < (nbL (n 0) (n 1) k0 r0 (3 * b)).length → M1.1 127 i = u ((nbL (n 0) (n 1) k0 r0 (3 * b)).getD i 0)) → ∃ M2, fX11_beside_42 fX11_beside_151 f (nI cell) (nI s) (nI kn) (nI wh) (nI (n 0)) (nI (nbL (n 0) (n 1) k0 r0 (3 * b)).length) (nI (r0 + b) - 1) M1 = fX11_beside_151 (nI wh) (nI (nbL (n 0) (n 1) k0 r0 9).length) M2 ∧ Kp M3 M2 ∧ (∀ i, i < (nbL (n 0) (n 1) k0 r0 9).length → M2.1 127 i = u ((nbL (n 0) (n 1) k0 r0 9).getD i 0)) := by
      intro d
      induction d with
      | zero =>
        intro f b M1 hd hb3 hf hK hI
        obtain ⟨f, rfl⟩ : ∃ f', f = f' + 1 := ⟨f - 1, by omega⟩
        obtain rfl : b = 3 := by omega
        refine ⟨M1, ?_, hK, hI⟩
        rw [fX11_beside_42, ea_ck_t (pn_nz (by omega) (by omega)), hdv, if_pos (by rw [lt_sh (by omega) (by omega)]; omega)]
      | succ d ih =>
        intro f b M1 hd hb3 hf hK hI
        obtain ⟨f, rfl⟩ : ∃ f', f = f' + 1 := ⟨f - 1, by omega⟩
        obtain ⟨M2, t1, t2, t3⟩ := inner (fX11_beside_145 (fX11_beside_42 fX11_beside_151 f)) b (by omega) 3 ea_N 0 M1 (by omega) (by omega) (by unfold ea_N; omega) hK hI
        obtain ⟨M4, q1, q2⟩ := ih f (b + 1) M2 (by omega) (by omega) (by omega) t2 t3
        refine ⟨M4, ?_, q2⟩
        rw [fX11_beside_42, hrm, ea_ck_t (pn_nz (by omega) (by omega)), hdv, if_neg (by rw [lt_sh (by omega) (by omega)]; omega), ea_ck_t (pn_nz (by omega) (by omega)), ev_lt_]
        refine t1.trans ?_
        unfold fX11_beside_145
        rw [pz_sh1]
        exact q1
    obtain ⟨M2, e2, k2, i2⟩ := outer 3 ea_N 0 M3 (by omega) (by omega) (by unfold ea_N; omega) (Kp.rf M3) (fun i hi => absurd hi (Nat.not_lt_zero _))
    refine ⟨M2, ?_, k2⟩
    have gy := gy_fit h3.1 (nI cell) (nI s) (nI kn)
    have py : fX11_in (nI wh) 0 2 M3 = some (pb (nI wh) 0 (nI 3 - 1), M3) := py_in (nI wh) 0 2 M3
    have e00 := (hY M3 h3).1.1
    unfold fX11_beside fX11_beside_0
    rw [gy, h0, ev_ci, if_neg (by decide), py, hb, ev_ci, if_neg (by decide), show (0 : Int32).toNatClampNeg = 0 from rfl, e00, ev_lt_, ea_ck_t (pn_nz (by omega) (by omega)), hdv]
    refine (show fX11_beside_42 _ ea_N (nI cell) (nI s) (nI kn) (nI wh) (nI (n 0)) 0 (nI (r0 + 0) - 1) M3 = _ from e2).trans ?_
    unfold fX11_beside_151
    by_cases hw2 : wh = 2
    · rw [if_pos hw2, if_pos (by rw [hw2]; rfl)]
    · rw [if_neg hw2, if_neg (by rw [show (2 : Int32) = nI 2 from rfl, pn_eqI (by omega) (by omega)]; exact hw2)]
      have bs := py_bst hlen9 (V := V) (M := M2) (fun i hi => by rw [i2 i hi, ← hV]) (fun i _ => hVb i) (nI wh) fX11_beside_285 (nbL (n 0) (n 1) k0 r0 9).length ea_N 0 (by omega) (by omega) (by unfold ea_N; omega)
      refine (show fX11_beside_169 _ ea_N (nI wh) _ (-1) 0 0 M2 = _ from bs).trans ?_
      unfold fX11_beside_285
      by_cases hw0 : wh = 0
      · rw [if_pos hw0, if_pos (by rw [hw0]; rfl)]
      · rw [if_neg hw0, if_neg (by rw [pn_eq0 (by omega)]; exact hw0)]
